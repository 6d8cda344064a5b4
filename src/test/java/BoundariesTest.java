import java.util.function.Supplier;
import java.util.function.ToLongFunction;

/**
 * Each sentence of the document that names a boundary (too small, too large, empty, full, a
 * wrap-around, a refused call) with a test of its own, in the document's order. No object is used
 * for more than the 512 calls for which the document speaks.
 */
public final class BoundariesTest {
    private static final int NONE = -1, BAD = -2, NOT = -3, FULL = -4;
    private static final int NULL = -11, INDEX = -12, CAST = -13, STORE = -14, SIZE = -15;
    private static final int LEAST = Integer.MIN_VALUE, GREATEST = Integer.MAX_VALUE;
    private static final long LONG_BAD = Long.MIN_VALUE + 2;
    private static final String EIGHT = "0000a1;1955f9;0955f9;1000a1;0123c4;0234d5;0345e6;0411b7";
    private static final String TWENTY = "01234567899876543210";
    private static int wrong = 0;
    private static int checks = 0;
    private static int sentences = 0;
    private static String sentence = "";

    public static void main(String[] args) {
        BoundaryTexts.all();
        BoundaryDays.all();
        BoundaryPlans.all();
        BoundarySights.all();
        BoundarySheets.all();
        BoundaryRefusals.all();
        System.out.println(checks + " checks of " + sentences + " boundaries, " + wrong + " wrong");
        if (wrong != 0) {
            System.exit(1);
        }
    }

    /** Begins the test of one sentence; what goes wrong is told with it. */
    private static void says(String what) {
        sentence = what;
        sentences++;
    }

    private static void is(String call, long got, long want) {
        checks++;
        if (got != want) {
            wrong++;
            System.out.println("[" + sentence + "] " + call + " answered " + got + ", due is " + want);
        }
    }

    private static BoardRemembers typed(BoardRemembers x, int text, String bytes) {
        for (int i = 0; i < bytes.length(); i++) {
            x.type(text, bytes.charAt(i));
        }
        return x;
    }

    private static BoardRemembers board(String damps, String strokes) {
        return typed(typed(new BoardRemembers(), 0, damps), 1, strokes);
    }

    /** A board on which lines are wiped, each told as a day and a line. */
    private static BoardRemembers wiped(String damps, String strokes, int... daysAndLines) {
        BoardRemembers x = board(damps, strokes);
        for (int i = 0; i + 1 < daysAndLines.length; i += 2) {
            x.clean(daysAndLines[i], daysAndLines[i + 1]);
        }
        return x;
    }

    /** Eight strokes of day 0 on lines 0 to 5, all wiped on day 1, that come up from then on. */
    private static BoardRemembers eightThatComeUp() {
        return wiped("09999999999999999999", "0000a9;0005b9;0011c9;0022d9;0033e9;0044f9;0050a9;0055b9",
                1, 0, 1, 1, 1, 2, 1, 3, 1, 4, 1, 5);
    }

    /** Promises 2 to 8, and what the terms say of the texts. */
    private static final class BoundaryTexts {
        static void all() {
            newObject();
            typeBytes();
            typeFull();
            wipe();
            undo();
            faultOfDamps();
            faultOfStrokes();
            faultOfUnended();
            faultIsEmpty();
            damp();
            strokeParts();
            strokeNumbers();
            fine();
        }

        static void newObject() {
            says("1: No DAMPS, no STROKES; all SHEETS are LOST.");
            BoardRemembers x = new BoardRemembers();
            for (int what = 0; what <= 8; what++) {
                is("count(" + what + ")", x.count(what), 0);
            }
            for (int day = 0; day < 20; day++) {
                is("damp", x.damp(day), 0);
                is("through", x.through(day), 0);
                is("deep", x.deep(day), NONE);
            }
            for (int cell = 0; cell < 36; cell++) {
                is("stands", x.stands(0, cell), NONE);
                is("stands", x.stands(19, cell), NONE);
            }
            is("stroke(0, 0)", x.stroke(0, 0), BAD);
            is("count(8) before any finding", x.count(8), 0);
            for (int s = 0; s < 4; s++) {
                is("lose", x.lose(s), NULL);
            }
            is("fine at first", x.fine(0), 3);
        }

        static void typeBytes() {
            says("2: A byte (0 to 255) comes behind a text: how many. BAD");
            BoardRemembers x = new BoardRemembers();
            is("type(0, 0)", x.type(0, 0), 1);
            is("type(0, 255)", x.type(0, 255), 2);
            is("type(1, 0)", x.type(1, 0), 1);
            is("type(1, 255)", x.type(1, 255), 2);
            for (int b : new int[] {-1, 256, LEAST, GREATEST, 256 + 48, -208}) {
                is("type(0, " + b + ")", x.type(0, b), BAD);
                is("type(1, " + b + ")", x.type(1, b), BAD);
            }
            for (int text : new int[] {-1, 2, LEAST, GREATEST}) {
                is("type(" + text + ", 48)", x.type(text, 48), BAD);
            }
            is("count(2)", x.count(2), 2);
            is("count(3)", x.count(3), 2);
        }

        static void typeFull() {
            says("2: FULL, of up to 20 figures");
            BoardRemembers x = board(TWENTY.substring(1), "");
            is("the twentieth", x.type(0, '7'), 20);
            is("the twenty-first", x.type(0, '7'), FULL);
            is("no byte of a full text", x.type(0, -1), BAD);
            is("another text is not full", x.type(1, '0'), 1);
            x.undo(0);
            is("room again", x.type(0, '5'), 20);
            is("the last", x.damp(19), 5);
            says("2: FULL, of up to 55 bytes");
            BoardRemembers y = board("", EIGHT.substring(0, 54));
            is("the fifty-fifth", y.type(1, '9'), 55);
            is("the fifty-sixth", y.type(1, ';'), FULL);
            is("no byte of a full text", y.type(1, 256), BAD);
            is("another text is not full", y.type(0, '0'), 1);
            is("eight strokes", y.count(1), 8);
            says("2: a byte with which a text cannot go on comes behind it too");
            BoardRemembers z = board("xxxxxxxxxxxxxxxxxxxx", "");
            is("twenty of them", z.count(2), 20);
            is("one more", z.type(0, 'x'), FULL);
        }

        static void wipe() {
            says("3: A text is empty: how many bytes it had. BAD.");
            BoardRemembers x = board(TWENTY, EIGHT);
            x.clean(1, 0);
            x.grease(1, 0);
            x.seen(0, 0, 6);
            is("wipe(-1)", x.wipe(-1), BAD);
            is("wipe(2)", x.wipe(2), BAD);
            is("a full one", x.wipe(0), 20);
            is("an empty one", x.wipe(0), 0);
            is("the other text", x.count(3), 55);
            is("a full one", x.wipe(1), 55);
            is("an empty one", x.wipe(1), 0);
            is("wipes stay", x.count(4), 1);
            is("oils stay", x.count(5), 1);
            is("what was seen stays", x.count(7), 1);
            is("one with a fault", typed(x, 0, "0?").wipe(0), 2);
            is("well again", x.fault(0), NONE);
        }

        static void undo() {
            says("4: The last byte of a text is undone: how many are left. NOT: it is empty.");
            BoardRemembers x = board("12", "0");
            is("undo", x.undo(0), 1);
            is("what is left", x.damp(0), 1);
            is("what is undone", x.damp(1), 0);
            is("the last one", x.undo(0), 0);
            is("an empty one", x.undo(0), NOT);
            is("the other text", x.undo(1), 0);
            is("an empty one", x.undo(1), NOT);
            is("full ones", board(TWENTY, "").undo(0), 19);
            is("full ones", board("", EIGHT).undo(1), 54);
            is("undo(-1)", x.undo(-1), BAD);
            is("undo(2), though all is empty", x.undo(2), BAD);
            BoardRemembers y = board("1", EIGHT + ";");
            is("a refused byte is none to be undone", y.undo(1), 54);
            BoardRemembers z = board("9?", "");
            is("a fault", z.damp(0), 0);
            z.undo(0);
            is("a fault undone", z.damp(0), 9);
        }

        static int fault(int text, String bytes) {
            return typed(new BoardRemembers(), text, bytes).fault(text);
        }

        static void faultOfDamps() {
            says("5: the place of the first byte with which it cannot go on, figures 0 to 9");
            is("all figures", fault(0, TWENTY), NONE);
            is("below 0", fault(0, "0/"), 1);
            is("above 9", fault(0, "9:"), 1);
            is("the first", fault(0, "\0" + "12"), 0);
            is("byte 255", fault(0, "1" + (char) 255), 1);
            is("the last of twenty", fault(0, "0000000000000000000;"), 19);
            is("the first of two", fault(0, "00a0a"), 2);
            says("5: an empty one is well");
            is("damps", fault(0, ""), NONE);
            is("strokes", fault(1, ""), NONE);
            says("5: The FAULT of a text. BAD.");
            is("fault(-1)", new BoardRemembers().fault(-1), BAD);
            is("fault(2)", new BoardRemembers().fault(2), BAD);
        }

        static void faultOfStrokes() {
            says("5: a figure 0 or 1 and a figure, the DAY (00 to 19)");
            is("20", fault(1, "2000a1"), 0);
            is("/0", fault(1, "/000a1"), 0);
            is("0/", fault(1, "0/00a1"), 1);
            is("1:", fault(1, "1:00a1"), 1);
            is("00", fault(1, "0000a1"), NONE);
            is("19", fault(1, "1900a1"), NONE);
            says("5: a figure 0 to 5, the LINE");
            is("line /", fault(1, "00/0a1"), 2);
            is("line 6", fault(1, "0060a1"), 2);
            is("line 5", fault(1, "0050a1"), NONE);
            says("5: a figure 0 to 5, the PLACE");
            is("place /", fault(1, "000/a1"), 3);
            is("place 6", fault(1, "0006a1"), 3);
            is("place 5", fault(1, "0005a1"), NONE);
            says("5: a letter a to f, the SIGN");
            is("before a", fault(1, "0000`1"), 4);
            is("g", fault(1, "0000g1"), 4);
            is("A", fault(1, "0000A1"), 4);
            is("f", fault(1, "0000f1"), NONE);
            says("5: a figure, its CHALK (1 to 9)");
            is("0", fault(1, "0000a0"), 5);
            is(":", fault(1, "0000a:"), 5);
            is("1", fault(1, "0000a1"), NONE);
            is("9", fault(1, "0000a9"), NONE);
            says("5: with ; between them");
            is("before the first", fault(1, ";0000a1"), 0);
            is(":", fault(1, "0000a1:0000a1"), 6);
            is("<", fault(1, "0000a1<0000a1"), 6);
            is("none", fault(1, "0000a10000a1"), 6);
            is("two", fault(1, "0000a1;;0000a1"), 7);
            is("the last byte of the eighth", fault(1, EIGHT.substring(0, 54) + "0"), 54);
        }

        static void faultOfUnended() {
            says("5: of one that is not ended, its end");
            for (int n = 0; n <= 55; n++) {
                is("the first " + n, fault(1, EIGHT.substring(0, n)), n == 0 || n % 7 == 6 ? NONE : n);
            }
            says("5: 8 at most, here also of the first byte of a ninth");
            BoardRemembers x = board("", EIGHT + ";0000a1");
            is("no ninth has room", x.count(3), 55);
            is("so there is no fault", x.fault(1), NONE);
            is("eight", x.count(1), 8);
        }

        static void faultIsEmpty() {
            says("5: With a FAULT a text is as if it was empty.");
            BoardRemembers x = wiped("0999x", "0000a9", 1, 0);
            is("no damps", x.count(0), 0);
            is("all bytes", x.count(2), 5);
            is("damp", x.damp(1), 0);
            is("the strokes are there", x.count(1), 1);
            is("nothing comes up", x.count(6), 0);
            x.undo(0);
            is("damps", x.count(0), 4);
            is("it comes up", x.count(6), 3);
            x.type(1, ';');
            is("no strokes", x.count(1), 0);
            is("all bytes", x.count(3), 7);
            is("nothing comes up", x.count(6), 0);
            is("nothing has gone in", x.deep(19), NONE);
            is("nothing stands", x.stands(0, 0), NONE);
            is("no such stroke", x.up(0), BAD);
            is("the damps are there", x.count(0), 4);
        }

        static void damp() {
            says("6: one for each DAY (0 on); on later ones 0. BAD.");
            BoardRemembers x = board(TWENTY, "");
            for (int day = 0; day < 20; day++) {
                is("damp(" + day + ")", x.damp(day), TWENTY.charAt(day) - '0');
            }
            for (int day : new int[] {-1, 20, LEAST, GREATEST}) {
                is("damp(" + day + ")", x.damp(day), BAD);
            }
            BoardRemembers one = board("9", "");
            is("damp(0)", one.damp(0), 9);
            is("damp(1)", one.damp(1), 0);
            is("damp(19)", one.damp(19), 0);
            is("of none", new BoardRemembers().damp(0), 0);
        }

        static void strokeParts() {
            says("7: DAY (00 to 19), CELL 6 LINE and PLACE (0 to 35), SIGN (0 to 5), CHALK (1 to 9)");
            BoardRemembers x = board("", EIGHT);
            int[][] due = {{0, 0, 0, 1}, {19, 35, 5, 9}, {9, 35, 5, 9}, {10, 0, 0, 1}, {1, 15, 2, 4},
                {2, 22, 3, 5}, {3, 29, 4, 6}, {4, 7, 1, 7}};
            for (int k = 0; k < 8; k++) {
                for (int what = 0; what < 4; what++) {
                    is("stroke(" + k + ", " + what + ")", x.stroke(k, what), due[k][what]);
                }
            }
            BoardRemembers y = board("", "0005a1;0010a1");
            is("the last place of a line", y.stroke(0, 1), 5);
            is("the first of the next", y.stroke(1, 1), 6);
        }

        static void strokeNumbers() {
            says("7: of a STROKE. BAD: no such thing, a number not as told");
            BoardRemembers x = board("", EIGHT);
            for (int k : new int[] {-1, 8, LEAST, GREATEST}) {
                is("stroke(" + k + ", 0)", x.stroke(k, 0), BAD);
            }
            for (int what : new int[] {-1, 4, LEAST, GREATEST}) {
                is("stroke(0, " + what + ")", x.stroke(0, what), BAD);
            }
            is("of one", board("", "0000a1").stroke(1, 0), BAD);
            is("of none", new BoardRemembers().stroke(0, 0), BAD);
            is("of a fault", board("", "0000a1;").stroke(0, 0), BAD);
        }

        static void fine() {
            says("8: FINE (0 to 9; 3 at first): what it was. BAD.");
            BoardRemembers x = new BoardRemembers();
            for (int v : new int[] {-1, 10, LEAST, GREATEST}) {
                is("fine(" + v + ")", x.fine(v), BAD);
            }
            is("at first", x.fine(0), 3);
            is("fine(9)", x.fine(9), 0);
            is("fine(9) again", x.fine(9), 9);
            is("a refused one", x.fine(10), BAD);
            is("leaves it", x.fine(3), 9);
        }
    }

    /** Promises 8 to 19, and what the terms say of the days. */
    private static final class BoundaryDays {
        static void all() {
            wipesFull();
            oilsFull();
            back();
            readBounds();
            readStops();
            readFull();
            wipedFirst();
            writtenInOrder();
            goesInAsChalk();
            tenTogether();
            likeOnes();
            oiledBy();
            nineAndNought();
            belowFine();
            stands();
            state();
            up();
            through();
            misread();
            most();
            deep();
        }

        static void wipesFull() {
            says("9: WIPES, 8 at most: on a DAY a LINE. BAD; FULL.");
            BoardRemembers x = new BoardRemembers();
            for (int bad : new int[] {-1, LEAST, GREATEST}) {
                is("clean(" + bad + ", 0)", x.clean(bad, 0), BAD);
                is("clean(0, " + bad + ")", x.clean(0, bad), BAD);
            }
            is("day 20", x.clean(20, 0), BAD);
            is("line 6", x.clean(0, 6), BAD);
            is("day 0, line 0", x.clean(0, 0), 1);
            is("day 19, line 5", x.clean(19, 5), 2);
            for (int i = 3; i <= 8; i++) {
                is("the same again", x.clean(19, 5), i);
            }
            is("a ninth", x.clean(19, 5), FULL);
            is("none of full ones", x.clean(20, 5), BAD);
            is("none of full ones", x.clean(19, 6), BAD);
            is("eight", x.count(4), 8);
            is("oils have their own room", x.grease(0, 0), 1);
        }

        static void oilsFull() {
            says("10: OILS, 4 at most: from a DAY on a LINE. BAD; FULL.");
            BoardRemembers x = new BoardRemembers();
            for (int bad : new int[] {-1, LEAST, GREATEST}) {
                is("grease(" + bad + ", 0)", x.grease(bad, 0), BAD);
                is("grease(0, " + bad + ")", x.grease(0, bad), BAD);
            }
            is("day 20", x.grease(20, 0), BAD);
            is("line 6", x.grease(0, 6), BAD);
            is("day 0, line 0", x.grease(0, 0), 1);
            is("day 19, line 5", x.grease(19, 5), 2);
            is("the same again", x.grease(19, 5), 3);
            is("a fourth", x.grease(3, 3), 4);
            is("a fifth", x.grease(3, 3), FULL);
            is("none of full ones", x.grease(20, 5), BAD);
            is("none of full ones", x.grease(19, 6), BAD);
            is("four", x.count(5), 4);
            is("wipes have their own room", x.clean(0, 0), 1);
        }

        static void back() {
            says("11: The last WIPE, OIL is undone: how many are left. BAD; NOT: there is none.");
            BoardRemembers x = new BoardRemembers();
            is("no wipe", x.back(0), NOT);
            is("no oil", x.back(1), NOT);
            is("back(2)", x.back(2), BAD);
            is("back(-1)", x.back(-1), BAD);
            x.grease(0, 0);
            is("no wipe, though an oil", x.back(0), NOT);
            is("the only oil", x.back(1), 0);
            x.clean(0, 0);
            is("no oil, though a wipe", x.back(1), NOT);
            is("the only wipe", x.back(0), 0);
            for (int i = 0; i < 8; i++) {
                x.clean(1, 1);
                x.grease(1, 1);
            }
            is("of full wipes", x.back(0), 7);
            is("of full oils", x.back(1), 3);
            is("room again", x.clean(0, 0), 8);
            is("room again", x.grease(0, 0), 4);
            BoardRemembers y = wiped("", "0000a1;0010b1", 1, 0, 1, 1);
            y.back(0);
            is("the first stays", y.state(1, 0, 0), 2);
            is("the last is undone", y.state(1, 1, 0), 1);
            BoardRemembers z = wiped("09", "0000a9;0010b9", 1, 0, 1, 1);
            z.grease(0, 0);
            z.grease(0, 1);
            z.back(1);
            is("the first stays", z.up(0), 0);
            is("the last is undone", z.up(1), 1);
        }

        static BoardRemembers withItems(int form, int... items) {
            BoardRemembers x = new BoardRemembers();
            x.sheet(0, form, items.length);
            for (int i = 0; i < items.length; i++) {
                x.put(0, form, i, items[i]);
            }
            return x;
        }

        static void readBounds() {
            says("12: WIPES from a SHEET. BAD; NULL.");
            BoardRemembers x = new BoardRemembers();
            for (int s : new int[] {-1, 4, LEAST, GREATEST}) {
                is("read(" + s + ")", x.read(s), BAD);
            }
            is("BAD is no finding", x.count(8), 0);
            for (int s = 0; s < 4; s++) {
                is("a lost one", x.read(s), NULL);
            }
            is("the finding", x.count(8), 1);
            says("12: its items, two for each, as many as are whole");
            is("no items", withItems(2).read(0), 0);
            is("one", withItems(2, 1).read(0), 0);
            is("two", withItems(2, 1, 1).read(0), 1);
            is("three", withItems(2, 1, 1, 1).read(0), 1);
            is("four", withItems(2, 1, 1, 1, 1).read(0), 2);
            is("half a one that may not be", withItems(2, 1, 1, 99).read(0), 1);
            BoardRemembers y = withItems(0, 1, 0);
            typed(y, 1, "0000a1;0010b1");
            y.read(0);
            is("the day comes first, then the line", y.state(1, 0, 0), 2);
            is("another line", y.state(1, 1, 0), 1);
        }

        static void readStops() {
            says("12: as long as each may be");
            int[][] bad = {{20, 0}, {-1, 0}, {0, 6}, {0, -1}, {127, 5}, {19, -128}};
            for (int form = 0; form < 3; form++) {
                for (int[] b : bad) {
                    BoardRemembers x = withItems(form, 19, 5, b[0], b[1], 0, 0);
                    is("up to " + b[0] + " " + b[1], x.read(0), 1);
                    is("those stay, none behind it comes", x.count(4), 1);
                    is("a first that may not be", withItems(form, b[0], b[1], 0, 0).read(0), 0);
                }
            }
            is("far ints", withItems(2, LEAST, 0, 0, 0).read(0), 0);
            is("far ints", withItems(2, 0, GREATEST, 0, 0).read(0), 0);
            is("a byte has a sign", withItems(0, 255, 0).read(0), 0);
            is("a byte that wraps", withItems(0, 256, 261).read(0), 1);
            is("a short that wraps", withItems(1, 65536 + 19, 65536 + 5).read(0), 1);
            is("no finding", withItems(2, 20, 0).count(8), 0);
        }

        static void readFull() {
            says("12: WIPES, 8 at most, as long as each may be");
            BoardRemembers x = new BoardRemembers();
            x.sheet(0, 0, 60);
            is("thirty", x.read(0), 8);
            is("eight", x.count(4), 8);
            is("of full wipes", x.read(0), 0);
            is("eight still", x.count(4), 8);
            x.back(0);
            x.back(0);
            is("room for two", x.read(0), 2);
            BoardRemembers y = withItems(1, 1, 1, 2, 2);
            y.clean(0, 0);
            is("behind those told before", y.read(0), 2);
            is("all of them", y.count(4), 3);
            is("the last is undone first", y.back(0), 2);
        }

        static void wipedFirst() {
            says("On each DAY first all that is WRITTEN on a LINE that is WIPED on it goes IN");
            BoardRemembers x = wiped("", "0000a5;0005b5;0010c5", 1, 0);
            is("place 0", x.state(1, 0, 0), 2);
            is("place 5", x.state(1, 1, 0), 2);
            is("the next line", x.state(1, 2, 0), 1);
            is("not the day before", x.state(0, 0, 0), 1);
            BoardRemembers own = wiped("", "0300a5", 3, 0);
            is("not on its own day", own.state(3, 0, 0), 1);
            is("nor later", own.state(19, 0, 0), 1);
            BoardRemembers first = wiped("", "0000a5", 0, 0);
            is("on day 0 nothing is written yet", first.state(19, 0, 0), 1);
            BoardRemembers last = wiped("00000000000000000009", "0000a1", 19, 0);
            is("on day 18", last.state(18, 0, 0), 1);
            is("on day 19 it goes in", last.state(19, 0, 0), 3);
            BoardRemembers early = wiped("", "0500a5", 4, 0);
            is("a wipe ahead of it", early.state(19, 0, 0), 1);
            BoardRemembers asked = board("", "0000a5");
            is("not wiped", asked.state(1, 0, 0), 1);
            asked.clean(1, 0);
            is("wiped behind an answer", asked.state(1, 0, 0), 2);
            BoardRemembers twice = wiped("0000", "0000a5", 1, 0, 3, 0);
            is("for good: a second wipe makes it no stronger", twice.state(3, 0, 1), 2);
        }

        static void writtenInOrder() {
            says("Then each STROKE of that DAY, as told, is WRITTEN; what was WRITTEN there goes IN likewise");
            BoardRemembers x = board("", "0000a1;0000b2;0000c3;0000d4;0000e5;0000f6;0000a7;0000b8");
            is("the last one stands", x.stands(0, 0), 1);
            for (int k = 0; k < 7; k++) {
                is("gone in", x.state(0, k, 0), 2);
            }
            is("written", x.state(0, 7, 0), 1);
            BoardRemembers later = board("", "0500a1;0300b2");
            is("told first, written last", later.stands(19, 0), 0);
            is("not yet", later.state(2, 1, 0), 0);
            is("gone in by it", later.state(5, 1, 0), 2);
            BoardRemembers beside = board("", "0000a1;0001b2");
            is("another cell", beside.stands(0, 0), 0);
            BoardRemembers last = board("", "0000a1;1900b2");
            is("on the last day", last.state(18, 0, 0), 1);
            is("on the last day", last.state(19, 0, 0), 2);
        }

        static void goesInAsChalk() {
            says("goes IN, as strong as its CHALK, for good");
            for (int chalk = 1; chalk <= 9; chalk++) {
                BoardRemembers x = wiped("33", "0000a" + chalk, 1, 0);
                // With a damp of 3 only 7 and more come up, and then they are stronger by 1.
                is("chalk " + chalk, x.state(1, 0, 1), chalk < 7 ? chalk : Math.min(9, chalk + 1));
            }
            BoardRemembers x = wiped("", "0000a3;0200b1", 1, 0);
            is("never written again", x.state(2, 0, 0), 2);
            is("never written again", x.state(19, 0, 0), 2);
        }

        static void tenTogether() {
            says("COMES UP, if as strong as it is, and DAMP, are 10 or more together");
            for (int chalk = 1; chalk <= 9; chalk++) {
                for (int damp = 0; damp <= 9; damp++) {
                    BoardRemembers x = wiped("0" + damp, "0000a" + chalk, 1, 0);
                    is(chalk + " and " + damp, x.through(1), chalk + damp >= 10 ? 1 : 0);
                }
            }
            BoardRemembers gone = wiped("0009", "0000a2", 1, 0);
            is("0 and 9", gone.through(3), 0);
            is("0 strong", gone.state(3, 0, 1), 0);
            BoardRemembers one = wiped("0009", "0000a3", 1, 0);
            is("1 and 9", one.through(3), 1);
        }

        static void likeOnes() {
            says("and is strongest, of like ones the greatest STROKE");
            is("like", wiped("39", "0000a5;0000b5", 1, 0).stands(1, 0), 7);
            is("the first stronger", wiped("39", "0000a6;0000b5", 1, 0).stands(1, 0), 6);
            is("the last stronger", wiped("39", "0000a5;0000b6", 1, 0).stands(1, 0), 7);
            is("greatest, not latest", wiped("339", "0100a5;0000b5", 2, 0).stands(2, 0), 7);
            is("the middle one", wiped("39", "0000a5;0000b6;0000c5", 1, 0).stands(1, 0), 7);
            BoardRemembers eight = wiped("39", "0000a5;0000b5;0000c5;0000d5;0000e5;0000f5;0000a5;0000f5", 1, 0);
            is("of eight like ones", eight.stands(1, 0), 11);
            is("one alone", eight.through(1), 1);
            BoardRemembers cells = wiped("39", "0000a5;0001b9;0000c5;0001d8;0055e9", 1, 0);
            is("of each cell, whatever is on others", cells.stands(1, 0), 8);
            is("of each cell, whatever is on others", cells.stands(1, 1), 7);
            is("what is written elsewhere stays so", cells.through(1), 2);
            BoardRemembers weak = wiped("35", "0000a4;0000b4", 1, 0);
            is("if the strongest does not, none does", weak.through(1), 0);
        }

        static void oiledBy() {
            says("of which the LINE is not OILED (by that DAY)");
            for (int day = 0; day < 20; day++) {
                BoardRemembers x = wiped("09999999999999999999", "0005a9", 1, 0);
                x.grease(day, 0);
                is("oiled from " + day, x.up(0), day == 0 ? 0 : day - 1);
            }
            BoardRemembers y = wiped("09", "0005a9", 1, 0);
            y.grease(0, 1);
            is("the next line", y.up(0), 1);
            y.grease(1, 0);
            is("on the day itself", y.up(0), 0);
            BoardRemembers asked = wiped("09", "0005a9", 1, 0);
            is("not oiled", asked.up(0), 1);
            asked.grease(1, 0);
            is("oiled behind an answer", asked.up(0), 0);
            BoardRemembers z = wiped("0000", "0000a9", 1, 0);
            z.grease(0, 0);
            is("what is oiled is weaker too", z.state(3, 0, 1), 6);
            is("what is written stands on oil", z.stands(0, 0), 0);
            BoardRemembers two = wiped("0999", "0000a9", 1, 0);
            two.grease(3, 0);
            two.grease(2, 0);
            is("the earlier of two", two.up(0), 1);
        }

        static void nineAndNought() {
            says("what came up is 1 stronger (9 at most)");
            BoardRemembers x = wiped("099999999", "0000a7", 1, 0);
            is("8", x.state(1, 0, 1), 8);
            is("9", x.state(2, 0, 1), 9);
            is("9 still", x.state(3, 0, 1), 9);
            is("9 still", x.state(8, 0, 1), 9);
            says("all others that have gone IN are 1 weaker (0 at least)");
            BoardRemembers y = wiped("", "0000a2", 1, 0);
            is("1", y.state(1, 0, 1), 1);
            is("0", y.state(2, 0, 1), 0);
            is("0 still", y.state(3, 0, 1), 0);
            is("0 still", y.state(19, 0, 1), 0);
        }

        static void belowFine() {
            says("on a DAY with a DAMP below FINE");
            for (int fine = 0; fine <= 9; fine++) {
                for (int damp = 0; damp <= 9; damp++) {
                    BoardRemembers x = wiped("" + damp + damp, "0000a1;0000b9;0011c1", 1, 1);
                    x.fine(fine);
                    // Behind day 0, under the b, the a cannot come up.
                    is("fine " + fine + ", damp " + damp, x.state(0, 0, 1), damp < fine ? 0 : 1);
                }
            }
            says("all others that have gone IN, on whatever CELLS");
            BoardRemembers x = wiped("002", "0000a9;0055b5;0033c5;0033d1", 1, 0, 1, 5);
            x.grease(0, 5);
            is("oiled", x.state(2, 1, 1), 3);
            is("under what is written", x.state(2, 2, 1), 2);
            is("what is written is not", x.state(2, 3, 1), NONE);
            is("what came up is not", wiped("01", "0000a9", 1, 0).state(1, 0, 1), 9);
            is("what came up is stronger on a fine day", wiped("02", "0000a8", 1, 0).state(1, 0, 1), 9);
        }

        static void stands() {
            says("13: what stands there (0 to 5 a SIGN that is WRITTEN, 6 to 11 one that COMES UP; NONE). BAD.");
            for (int sign = 0; sign < 6; sign++) {
                BoardRemembers x = wiped("09", "0055" + (char) ('a' + sign) + "9", 1, 5);
                is("written", x.stands(0, 35), sign);
                is("come up", x.stands(1, 35), 6 + sign);
                is("nothing", x.stands(2, 35), NONE);
            }
            BoardRemembers x = eightThatComeUp();
            for (int bad : new int[] {-1, LEAST, GREATEST}) {
                is("stands(" + bad + ", 0)", x.stands(bad, 0), BAD);
                is("stands(0, " + bad + ")", x.stands(0, bad), BAD);
            }
            is("day 20", x.stands(20, 0), BAD);
            is("cell 36", x.stands(0, 36), BAD);
            is("day 0, cell 0", x.stands(0, 0), 0);
            is("day 19, cell 35", x.stands(19, 35), 7);
        }

        static void state() {
            says("14: what it is (0 not yet, 1 WRITTEN, 2 IN, 3 it came up); how strong (of one gone IN, else NONE)");
            BoardRemembers x = wiped("0000900", "0200a5", 3, 0);
            // Chalk 5 is 4 behind day 3, comes up by the 9 of day 4, and is 5 behind it.
            int[] what = {0, 0, 1, 2, 3, 2};
            int[] strong = {NONE, NONE, NONE, 4, 5, 4};
            for (int day = 0; day < 6; day++) {
                is("what " + day, x.state(day, 0, 0), what[day]);
                is("strong " + day, x.state(day, 0, 1), strong[day]);
            }
            says("14: BAD");
            for (int bad : new int[] {-1, LEAST, GREATEST}) {
                is("day " + bad, x.state(bad, 0, 0), BAD);
                is("stroke " + bad, x.state(0, bad, 0), BAD);
                is("what " + bad, x.state(0, 0, bad), BAD);
            }
            is("day 20", x.state(20, 0, 0), BAD);
            is("stroke 1", x.state(0, 1, 0), BAD);
            is("what 2", x.state(0, 0, 2), BAD);
            BoardRemembers eight = board("", EIGHT);
            is("the eighth on the last day", eight.state(19, 7, 0), 1);
            is("a ninth", eight.state(19, 8, 0), BAD);
            is("of none", new BoardRemembers().state(0, 0, 0), BAD);
            is("written on day 19", eight.state(19, 1, 0), 1);
            is("not yet on day 18", eight.state(18, 1, 0), 0);
        }

        static void up() {
            says("15: UP: on how many DAYS it COMES UP. BAD.");
            BoardRemembers x = eightThatComeUp();
            for (int k = 0; k < 8; k++) {
                is("all days but the first", x.up(k), 19);
            }
            for (int k : new int[] {-1, 8, LEAST, GREATEST}) {
                is("up(" + k + ")", x.up(k), BAD);
            }
            is("on none", board(TWENTY, "0000a9").up(0), 0);
            is("on the last day alone", wiped("00000000000000000009", "1800a1", 19, 0).up(0), 1);
            is("of none", new BoardRemembers().up(0), BAD);
        }

        static void through() {
            says("16: THROUGH on a DAY: how many come up. BAD.");
            BoardRemembers x = eightThatComeUp();
            is("none", x.through(0), 0);
            is("all", x.through(1), 8);
            is("all", x.through(19), 8);
            for (int day : new int[] {-1, 20, LEAST, GREATEST}) {
                is("through(" + day + ")", x.through(day), BAD);
            }
            is("of none", new BoardRemembers().through(19), 0);
        }

        static void misread() {
            says("17: the first DAY on which one COMES UP on a LINE on which something is WRITTEN; NONE. BAD.");
            BoardRemembers none = new BoardRemembers();
            is("of none", none.misread(0), NONE);
            is("of none", none.misread(1), NONE);
            is("misread(2)", none.misread(2), BAD);
            is("misread(-1)", none.misread(-1), BAD);
            BoardRemembers other = wiped("0999", "0005a9;0110b9", 1, 0);
            is("on the next line", other.misread(0), NONE);
            BoardRemembers last = wiped("00000000000000000009", "0050a1;1955b1", 19, 5);
            is("on the last day", last.misread(0), 19);
            is("on the last line", last.misread(1), 5);
            BoardRemembers early = wiped("0999", "0050a9;0155b1;0000c9;0201d1", 1, 5, 1, 0);
            is("the first day", early.misread(0), 1);
            is("its line, though a lesser one has a later day", early.misread(1), 5);
            says("17: the least such LINE");
            BoardRemembers like = wiped("0999", "0050a9;0155b1;0010c9;0111d1", 1, 5, 1, 1);
            is("the day", like.misread(0), 1);
            is("the least", like.misread(1), 1);
        }

        static void most() {
            says("18: the STROKE that COMES UP on most DAYS, of like ones the least; NONE");
            is("of none", new BoardRemembers().most(), NONE);
            is("of a fault", board("", "0000a1;").most(), NONE);
            is("none comes up", board("", "0000a1;0001b1").most(), 0);
            is("like ones", eightThatComeUp().most(), 0);
            is("the last", wiped("09", "0000a1;0010b1;0020c1;0030d1;0040e1;0001f1;0002a1;0053b1", 1, 5).most(), 7);
            is("like ones behind a lesser", wiped("09", "0000a1;0050b1;0051c1", 1, 5).most(), 1);
        }

        static void deep() {
            says("19: the CELL on which most have gone IN, of like ones the least; NONE: none has. BAD.");
            is("of none", new BoardRemembers().deep(0), NONE);
            is("all is written", board("", EIGHT).deep(0), NONE);
            BoardRemembers x = board("", "0055a1;0055b1;0300c1;0400d1;0500e1");
            is("cell 35", x.deep(0), 35);
            is("cell 35", x.deep(3), 35);
            is("like ones", x.deep(4), 0);
            is("more", x.deep(5), 0);
            for (int day : new int[] {-1, 20, LEAST, GREATEST}) {
                is("deep(" + day + ")", x.deep(day), BAD);
            }
            is("the last day", x.deep(19), 0);
            BoardRemembers more = board("", "0055a1;0055b1;0055c1;0000d1;0000e1");
            is("the most, not the least", more.deep(0), 35);
            is("like ones, the least told first", board("", "0000a1;0000b1;0055c1;0055d1").deep(0), 0);
            is("behind a day: that day's too", wiped("", "0012a1", 19, 1).deep(19), 8);
            is("behind a day: that day's too", wiped("", "0012a1", 19, 1).deep(18), NONE);
            BoardRemembers faded = wiped("", "0012a1", 1, 1);
            is("0 strong is in still", faded.deep(19), 8);
        }
    }

    /** Promises 20 to 23. */
    private static final class BoundaryPlans {
        static void all() {
            oilCounts();
            oilBesides();
            when();
            place();
            dry();
        }

        static BoardRemembers linesThatComeUp(int... lines) {
            StringBuilder strokes = new StringBuilder();
            for (int line : lines) {
                strokes.append(strokes.length() == 0 ? "" : ";").append("00").append(line).append("0a9");
            }
            BoardRemembers x = board("09", strokes.toString());
            for (int line : lines) {
                x.clean(1, line);
            }
            return x;
        }

        static void oils(String what, BoardRemembers x, int many, int bits) {
            is(what + ", how many", x.oil(0), many);
            is(what + ", bits", x.oil(1), bits);
        }

        static void oilCounts() {
            says("20: the fewest LINES (0 to 3) to be OILED so that nothing ever COMES UP; NONE. BAD.");
            oils("of none", new BoardRemembers(), 0, 0);
            oils("line 0", linesThatComeUp(0), 1, 1);
            oils("line 5", linesThatComeUp(5), 1, 32);
            oils("two", linesThatComeUp(0, 5), 2, 33);
            oils("three", linesThatComeUp(0, 1, 2), 3, 7);
            oils("three", linesThatComeUp(3, 4, 5), 3, 56);
            oils("four", linesThatComeUp(0, 1, 2, 3), NONE, NONE);
            oils("all", linesThatComeUp(0, 1, 2, 3, 4, 5), NONE, NONE);
            is("oil(2)", new BoardRemembers().oil(2), BAD);
            is("oil(-1)", new BoardRemembers().oil(-1), BAD);
        }

        static void oilBesides() {
            says("20: from DAY 0 on, besides OILS told");
            BoardRemembers x = linesThatComeUp(0, 1, 2, 3);
            x.grease(1, 2);
            oils("one of four is oiled", x, 3, 11);
            x.back(1);
            x.grease(2, 2);
            oils("too late", x, NONE, NONE);
            BoardRemembers full = linesThatComeUp(4, 5);
            for (int i = 0; i < 4; i++) {
                full.grease(0, 0);
            }
            oils("though no oil may be told any more", full, 2, 48);
            is("oils stay as told", full.count(5), 4);
            BoardRemembers all = linesThatComeUp(0, 1, 2, 3, 4, 5);
            for (int line = 0; line < 4; line++) {
                all.grease(0, line);
            }
            oils("two of six are left", all, 2, 48);
        }

        static void when() {
            says("21: the DAY (0 to 19), in place of its own, by which fewest come up, of like ones the least");
            BoardRemembers x = wiped("09999999999999999999", "0000a9", 1, 0, 19, 0);
            is("behind the last wipe", x.when(0, 0), 19);
            is("none then", x.when(0, 1), 0);
            BoardRemembers y = wiped("0999", "1900a9", 1, 0);
            is("of like ones the least", y.when(0, 0), 1);
            BoardRemembers never = board(TWENTY, "1900a9");
            is("all are like", never.when(0, 0), 0);
            is("none", never.when(0, 1), 0);
            BoardRemembers own = wiped("0001", "0000a9;0010b9", 3, 0, 3, 1);
            is("other ones are counted too", own.when(0, 1), 1);
            says("21: BAD");
            BoardRemembers eight = eightThatComeUp();
            for (int k : new int[] {-1, 8, LEAST, GREATEST}) {
                is("when(" + k + ", 0)", eight.when(k, 0), BAD);
            }
            is("what 2", eight.when(0, 2), BAD);
            is("what -1", eight.when(0, -1), BAD);
            is("the eighth", eight.when(7, 1), 133);
            is("of none", new BoardRemembers().when(0, 0), BAD);
        }

        static void place() {
            says("22: the CELL, in place of its own, likewise: of like ones the least");
            BoardRemembers x = wiped("09", "0055a9", 1, 5);
            is("cell 0", x.place(0, 0), 0);
            is("none", x.place(0, 1), 0);
            BoardRemembers last = wiped("0999", "0000a9", 1, 0, 1, 1, 1, 2, 1, 3, 1, 4);
            is("the first of the only line that is not wiped", last.place(0, 0), 30);
            BoardRemembers cover = wiped("09999", "0055a9;0200b9", 1, 0, 1, 1, 1, 2, 1, 3, 1, 4, 1, 5);
            is("the last cell, where it covers", cover.place(1, 0), 35);
            is("the day ahead of it is left", cover.place(1, 1), 1);
            BoardRemembers own = wiped("0999", "0000a9;0100b1", 1, 0);
            is("its own cell, where it covers", own.place(1, 0), 0);
            is("none then", own.place(1, 1), 0);
            BoardRemembers bare = wiped("0999", "0000a9;0100b9", 1, 0, 2, 0);
            is("what it leaves bare is counted", bare.place(1, 1), 2);
            BoardRemembers second = wiped("0555", "0050a4;0051b9;0100c9", 1, 0, 1, 1, 1, 2, 1, 3, 1, 4, 1, 5);
            is("the second of two that it could cover", second.place(2, 0), 31);
            is("none then", second.place(2, 1), 0);
            says("22: BAD");
            BoardRemembers eight = eightThatComeUp();
            for (int k : new int[] {-1, 8, LEAST, GREATEST}) {
                is("place(" + k + ", 0)", eight.place(k, 0), BAD);
            }
            is("what 2", eight.place(0, 2), BAD);
            is("what -1", eight.place(0, -1), BAD);
            is("the eighth", eight.place(7, 1), 133);
            is("of none", new BoardRemembers().place(0, 0), BAD);
        }

        static void dry() {
            says("23: the DAY that had better have a DAMP of 0, likewise: of like ones the least. BAD.");
            BoardRemembers none = new BoardRemembers();
            is("of none", none.dry(0), 0);
            is("of none", none.dry(1), 0);
            is("dry(2)", none.dry(2), BAD);
            is("dry(-1)", none.dry(-1), BAD);
            BoardRemembers last = wiped("00000000000000000009", "1800a1", 19, 0);
            is("the last day", last.dry(0), 19);
            is("none then", last.dry(1), 0);
            BoardRemembers like = wiped("3999", "0000a9", 1, 0);
            like.fine(0);
            is("the first of like ones", like.dry(0), 1);
            is("one less", like.dry(1), 2);
            BoardRemembers dry = wiped("9099", "0000a9", 2, 0);
            is("as told behind it", dry.damp(0), 9);
            is("a day that is dry already is like", dry.dry(0), 2);
            is("1", dry.dry(1), 1);
        }
    }

    /** Promises 24 to 31. */
    private static final class BoundarySights {
        static void all() {
            seenFull();
            forget();
            never();
            sign();
            chalk();
            ask();
            drynessBounds();
            drynessFractions();
            drynessExactly();
            weatherBounds();
            weatherWraps();
        }

        static void seenFull() {
            says("24: SEEN, 8 at most: on a DAY on a CELL a SIGN (0 to 5) came up (6: none did). BAD; FULL.");
            BoardRemembers x = new BoardRemembers();
            for (int bad : new int[] {-1, LEAST, GREATEST}) {
                is("day " + bad, x.seen(bad, 0, 0), BAD);
                is("cell " + bad, x.seen(0, bad, 0), BAD);
                is("sign " + bad, x.seen(0, 0, bad), BAD);
            }
            is("day 20", x.seen(20, 0, 0), BAD);
            is("cell 36", x.seen(0, 36, 0), BAD);
            is("sign 7", x.seen(0, 0, 7), BAD);
            is("the least", x.seen(0, 0, 0), 1);
            is("the greatest", x.seen(19, 35, 6), 2);
            for (int i = 3; i <= 8; i++) {
                is("the same again", x.seen(19, 35, 6), i);
            }
            is("a ninth", x.seen(0, 0, 0), FULL);
            is("none of full ones", x.seen(0, 0, 7), BAD);
            is("eight", x.count(7), 8);
        }

        static void forget() {
            says("25: All SEEN are forgotten: how many.");
            BoardRemembers x = new BoardRemembers();
            is("none", x.forget(), 0);
            for (int i = 0; i < 9; i++) {
                x.seen(0, 0, 6);
            }
            is("full", x.forget(), 8);
            is("none", x.forget(), 0);
            is("room again", x.seen(0, 0, 0), 1);
            is("what was seen last is forgotten too", x.forget(), 1);
        }

        static void never() {
            says("26: STROKES each of which, had it alone not been, makes all that was SEEN come out so");
            is("of none", new BoardRemembers().never(), 0);
            BoardRemembers x = eightThatComeUp();
            is("nothing is seen: all", x.never(), 255);
            x.seen(19, 35, 6);
            is("the eighth alone", x.never(), 128);
            x.seen(1, 0, 6);
            is("two that cannot both", x.never(), 0);
            x.forget();
            x.seen(19, 35, 1);
            is("all but the eighth", x.never(), 127);
            for (int i = 0; i < 7; i++) {
                x.seen(1, 1, 6);
            }
            is("all eight that are seen", x.never(), 127);
            x.forget();
            x.seen(0, 0, 6);
            is("what is written has not come up", x.never(), 255);
            BoardRemembers wrongSeen = new BoardRemembers();
            wrongSeen.seen(0, 0, 0);
            is("of none, with something seen", wrongSeen.never(), 0);
        }

        static void sign() {
            says("27: SIGN of a STROKE: 0 to 5, in place of its own, likewise, as bits. BAD.");
            BoardRemembers x = eightThatComeUp();
            is("nothing is seen: all", x.sign(7), 63);
            for (int sign = 0; sign < 6; sign++) {
                x.forget();
                x.seen(1, 35, sign);
                is("sign " + sign, x.sign(7), 1 << sign);
            }
            x.seen(1, 35, 0);
            is("two signs at once", x.sign(7), 0);
            x.forget();
            x.seen(1, 35, 6);
            is("none came up", x.sign(7), 0);
            for (int k : new int[] {-1, 8, LEAST, GREATEST}) {
                is("sign(" + k + ")", x.sign(k), BAD);
            }
            is("of none", new BoardRemembers().sign(0), BAD);
        }

        static void chalk() {
            says("28: CHALK of a STROKE: 1 to 9, in place of its own, likewise, as bits. BAD.");
            BoardRemembers x = wiped("09", "0000a5", 1, 0);
            is("nothing is seen: all", x.chalk(0), 1022);
            x.seen(1, 0, 0);
            is("by 9 all come up", x.chalk(0), 1022);
            x.forget();
            x.seen(1, 0, 6);
            is("by 9 none does not", x.chalk(0), 0);
            BoardRemembers one = wiped("01", "0000a5", 1, 0);
            one.seen(1, 0, 0);
            is("by 1 only 9", one.chalk(0), 512);
            one.forget();
            one.seen(1, 0, 6);
            is("by 1 all but 9", one.chalk(0), 510);
            BoardRemembers eight = eightThatComeUp();
            is("the eighth", eight.chalk(7), 1022);
            for (int k : new int[] {-1, 8, LEAST, GREATEST}) {
                is("chalk(" + k + ")", eight.chalk(k), BAD);
            }
            is("of none", new BoardRemembers().chalk(0), BAD);
        }

        static void ask() {
            says("29: the DAY on which the greatest number of those STROKES is least, of like ones the least. BAD.");
            BoardRemembers x = new BoardRemembers();
            is("of none", x.ask(0), 0);
            is("of none", x.ask(35), 0);
            for (int cell : new int[] {-1, 36, LEAST, GREATEST}) {
                is("ask(" + cell + ")", x.ask(cell), BAD);
            }
            BoardRemembers last = board("", "0000a5;1955b5");
            is("on the last day alone", last.ask(35), 19);
            is("from the first on", last.ask(0), 0);
            is("where nothing ever stands", last.ask(17), 0);
            last.seen(0, 0, 0);
            is("none is left", last.ask(35), 0);
            says("29: (or nothing)");
            BoardRemembers nothing = board("", "0400a5;0501b5;0602c5");
            is("one by which nothing stands, two by which the like does", nothing.ask(0), 4);
        }

        static BoardRemembers oneOnDayOne() {
            return wiped("09", "0000a9", 1, 0);
        }

        static void drynessBounds() {
            says("30: c sixteenths (0 to 16), a told one (0 to 9), on a DAY. BAD (as the least long and 2 more).");
            BoardRemembers x = oneOnDayOne();
            for (int bad : new int[] {-1, LEAST, GREATEST}) {
                is("c " + bad, x.dryness(bad, 0, 0, 0), LONG_BAD);
                is("last " + bad, x.dryness(0, bad, 0, 0), LONG_BAD);
                is("day " + bad, x.dryness(0, 0, bad, 0), LONG_BAD);
                is("what " + bad, x.dryness(0, 0, 0, bad), LONG_BAD);
            }
            is("c 17", x.dryness(17, 0, 0, 0), LONG_BAD);
            is("last 10", x.dryness(0, 10, 0, 0), LONG_BAD);
            is("day 20", x.dryness(0, 0, 20, 0), LONG_BAD);
            is("what 2", x.dryness(0, 0, 0, 2), LONG_BAD);
        }

        static void chance(String what, BoardRemembers x, int c, int last, int day, long above, long below) {
            is(what + ", above", x.dryness(c, last, day, 0), above);
            is(what + ", below", x.dryness(c, last, day, 1), below);
        }

        static void drynessFractions() {
            says("30: FRACTIONS are told in lowest terms, above and below (0 by 1)");
            BoardRemembers x = oneOnDayOne();
            chance("never dry", x, 0, 9, 1, 0, 1);
            chance("always dry", x, 16, 1, 1, 1, 1);
            chance("one", x, 1, 1, 1, 1, 16);
            chance("fifteen", x, 15, 9, 1, 15, 16);
            chance("two", x, 2, 1, 1, 1, 8);
            chance("eight", x, 8, 9, 1, 1, 2);
            chance("twelve", x, 12, 9, 1, 3, 4);
            chance("of none", new BoardRemembers(), 7, 9, 19, 1, 1);
            says("30: each DAY from 0 to a told one");
            chance("day 1 is not among them", x, 15, 0, 1, 0, 1);
            chance("day 1 is the last of them", x, 15, 1, 1, 15, 16);
            chance("days behind do not matter", x, 5, 9, 0, 1, 1);
            BoardRemembers ten = wiped("0999999999", "0000a9", 1, 0);
            ten.fine(0);
            chance("the tenth day", ten, 3, 9, 9, 3, 16);
            chance("the tenth day is not among them", ten, 3, 8, 9, 0, 1);
            BoardRemembers late = wiped("00000000000000000001", "0000a9", 19, 0);
            chance("day 19 is never by chance", late, 16, 9, 19, 0, 1);
            says("30: one dry day is enough");
            BoardRemembers once = wiped("44444444444", "0000a6", 1, 0);
            // 6 and 4 come up at once, and stronger on; a dry day 1 makes it 5, and 5 and 4 never do.
            chance("day 1", once, 15, 1, 10, 15, 16);
        }

        static void drynessExactly() {
            says("30: all ten days by chance, exactly");
            BoardRemembers each = wiped("33333333334", "0000a6", 1, 0);
            // It comes up on day 10 only if none of days 1 to 9 was dry.
            long wetAll = 1, below = 1;
            for (int i = 0; i < 9; i++) {
                wetAll *= 15;
                below *= 16;
            }
            chance("only if none of nine is dry", each, 1, 9, 10, below - wetAll, below);
            for (int c = 0; c <= 16; c++) {
                upAndDown(c);
            }
        }

        /** A 9 that is weaker on each dry day of 1 to 9, and stronger on others; day 10 has a damp of 1. */
        static void upAndDown(int c) {
            BoardRemembers walk = wiped("05555555551", "0000a9", 1, 0);
            long[] cases = new long[10];
            cases[9] = 1;
            long all = 1;
            for (int day = 1; day <= 9; day++) {
                long[] next = new long[10];
                for (int strong = 0; strong <= 9; strong++) {
                    next[Math.max(0, strong - 1)] += c * cases[strong];
                    // A damp of 5 lets only 5 and more come up; it lies above fine.
                    next[strong < 5 ? strong : Math.min(9, strong + 1)] += (16 - c) * cases[strong];
                }
                cases = next;
                all *= 16;
            }
            // Only a 9 comes up by 1. The greatest power of two in a number is its lowest bit.
            long above = all - cases[9];
            long common = above == 0 ? all : Math.min(all, Long.lowestOneBit(above));
            chance("up and down by " + c, walk, c, 9, 10, above / common, all / common);
        }

        static void weatherBounds() {
            says("31: n LOTS of 10 (1 to 20). BAD.");
            BoardRemembers x = eightThatComeUp();
            for (int n : new int[] {-1, 0, 21, LEAST, GREATEST}) {
                is("n " + n, x.weather(1, n, 0), BAD);
            }
            is("what 2", x.weather(1, 1, 2), BAD);
            is("what -1", x.weather(1, 1, -1), BAD);
            is("one lot: the other days are dry", x.weather(1, 1, 0), 0);
            is("one lot: the other days are dry", x.weather(1, 1, 1), 0);
            is("damps stay as told", x.count(6), 152);
            is("of none", new BoardRemembers().weather(1, 20, 0), 0);
        }

        static String lots(int seed, int n) {
            StringBuilder damps = new StringBuilder();
            long now = seed & 0xffffffffL;
            for (int i = 0; i < n; i++) {
                now = Math.floorMod(1103515245L * now + 12345L, 1L << 32);
                damps.append(now / 65536 % 10);
            }
            return damps.toString();
        }

        static void weatherWraps() {
            says("31: as ints that wrap; its upper 16 bits as a number from 0 on, modulo m");
            for (int seed : new int[] {0, 1, -1, LEAST, GREATEST, 7, -12345, 0x7fff0000, 0x80000001}) {
                for (int n : new int[] {1, 2, 19, 20}) {
                    BoardRemembers x = wiped("9", "0000a9;0011b5;0022c7", 1, 0, 1, 1, 1, 2);
                    BoardRemembers y = wiped(lots(seed, n), "0000a9;0011b5;0022c7", 1, 0, 1, 1, 1, 2);
                    int days = 0;
                    for (int day = 0; day < 20; day++) {
                        days += y.through(day) > 0 ? 1 : 0;
                    }
                    is("seed " + seed + ", n " + n, x.weather(seed, n, 0), y.count(6));
                    is("seed " + seed + ", n " + n, x.weather(seed, n, 1), days);
                }
            }
        }
    }

    /** Promises 32 to 39. */
    private static final class BoundarySheets {
        static void all() {
            sheetBounds();
            sheetAnew();
            lose();
            putBounds();
            lowestBits();
            get();
            copyOrder();
            copyIndex();
            copyAsTheyWere();
            write();
            count();
            digest();
        }

        static void sheetBounds() {
            says("32: A SHEET is a new row of a FORM with n items (0 to 60): n. BAD: SHEET, FORM, above 60; SIZE.");
            for (int form = 0; form < 3; form++) {
                BoardRemembers x = new BoardRemembers();
                is("none", x.sheet(0, form, 0), 0);
                is("sixty", x.sheet(3, form, 60), 60);
                is("sixty-one", x.sheet(1, form, 61), BAD);
                is("far above", x.sheet(1, form, GREATEST), BAD);
                is("no finding", x.count(8), 0);
                is("below 0", x.sheet(1, form, -1), SIZE);
                is("the finding", x.count(8), 5);
                is("far below", x.sheet(1, form, LEAST), SIZE);
                is("a refused one is lost still", x.lose(1), NULL);
            }
            BoardRemembers x = new BoardRemembers();
            for (int bad : new int[] {-1, LEAST, GREATEST}) {
                is("sheet " + bad, x.sheet(bad, 0, -1), BAD);
                is("form " + bad, x.sheet(0, bad, -1), BAD);
            }
            is("sheet 4", x.sheet(4, 0, -1), BAD);
            is("form 3", x.sheet(0, 3, -1), BAD);
            is("no finding", x.count(8), 0);
        }

        static void sheetAnew() {
            says("32: a new row (0 at first)");
            BoardRemembers x = new BoardRemembers();
            x.sheet(0, 2, 60);
            for (int i = 0; i < 60; i++) {
                is("0 at first", x.get(0, 2, i), 0);
                x.put(0, 2, i, -1);
            }
            is("refused", x.sheet(0, 2, -1), SIZE);
            is("refused", x.sheet(0, 2, 61), BAD);
            is("it stays", x.get(0, 2, 59), -1);
            x.sheet(0, 2, 60);
            for (int i = 0; i < 60; i++) {
                is("0 again", x.get(0, 2, i), 0);
            }
            x.sheet(0, 1, 1);
            is("another form", x.get(0, 1, 0), 0);
            is("fewer", x.get(0, 1, 1), LEAST);
        }

        static void lose() {
            says("33: It is LOST: how many items it had. BAD; NULL.");
            BoardRemembers x = new BoardRemembers();
            for (int s : new int[] {-1, 4, LEAST, GREATEST}) {
                is("lose(" + s + ")", x.lose(s), BAD);
            }
            is("no finding", x.count(8), 0);
            x.sheet(0, 0, 0);
            x.sheet(3, 2, 60);
            is("none", x.lose(0), 0);
            is("lost", x.lose(0), NULL);
            is("the finding", x.count(8), 1);
            is("another is not", x.lose(3), 60);
            is("lost", x.lose(3), NULL);
            is("made again", x.sheet(3, 0, 2), 2);
            is("lost again", x.lose(3), 2);
        }

        static BoardRemembers three() {
            BoardRemembers x = new BoardRemembers();
            for (int form = 0; form < 3; form++) {
                x.sheet(form, form, 3);
            }
            return x;
        }

        static void putBounds() {
            says("34: BAD; NULL; CAST; INDEX, the first that fits");
            BoardRemembers x = three();
            for (int bad : new int[] {-1, LEAST, GREATEST}) {
                is("sheet " + bad, x.put(bad, 0, 0, 0), BAD);
                is("form " + bad, x.put(3, bad, 9, 0), BAD);
            }
            is("sheet 4", x.put(4, 0, 0, 0), BAD);
            is("form 3 of a lost one", x.put(3, 3, 0, 0), BAD);
            is("no finding", x.count(8), 0);
            is("lost, no such item", x.put(3, 0, 99, 0), NULL);
            is("the finding", x.count(8), 1);
            for (int s = 0; s < 3; s++) {
                for (int form = 0; form < 3; form++) {
                    is("item -1", x.put(s, form, -1, 1), s == form ? INDEX : CAST);
                    is("item 3", x.put(s, form, 3, 1), s == form ? INDEX : CAST);
                    is("the finding", x.count(8), s == form ? 2 : 3);
                    is("item 0", x.put(s, form, 0, 1), s == form ? 1 : CAST);
                    is("item 2", x.put(s, form, 2, 1), s == form ? 1 : CAST);
                }
                is("far", x.put(s, s, LEAST, 1), INDEX);
                is("far", x.put(s, s, GREATEST, 1), INDEX);
            }
            x.sheet(0, 0, 0);
            is("of no items", x.put(0, 0, 0, 0), INDEX);
            x.sheet(0, 0, 60);
            is("the sixtieth", x.put(0, 0, 59, 0), 1);
            is("the sixty-first", x.put(0, 0, 60, 0), INDEX);
        }

        static void lowestBits() {
            says("34: becomes v (the lowest bits that it has)");
            int[] values = {0, 1, -1, 127, 128, 255, 256, -128, -129, 32767, 32768, 65535, 65536, -32768, -32769,
                GREATEST, LEAST, LEAST + 1};
            BoardRemembers x = three();
            for (int v : values) {
                for (int form = 0; form < 3; form++) {
                    is("put " + v, x.put(form, form, 2, v), 1);
                }
                is("byte of " + v, x.get(0, 0, 2), (byte) v);
                is("short of " + v, x.get(1, 1, 2), (short) v);
                is("int of " + v, x.get(2, 2, 2), v);
            }
            is("the item before it", x.get(2, 2, 1), 0);
        }

        static void got(BoardRemembers x, int s, int form, int i, int finding) {
            String call = "get(" + s + ", " + form + ", " + i + ")";
            is(call, x.get(s, form, i), LEAST);
            is("count(8) behind " + call, x.count(8), finding);
        }

        static void get() {
            says("35: BAD: the least int; so are NULL, CAST, INDEX (count() 8 tells)");
            BoardRemembers x = three();
            for (int bad : new int[] {-1, LEAST, GREATEST}) {
                got(x, bad, 0, 0, 0);
                got(x, 3, bad, 0, 0);
            }
            got(x, 4, 0, 0, 0);
            got(x, 0, 3, 0, 0);
            got(x, 3, 0, 9, 1);
            got(x, 0, 1, 9, 3);
            got(x, 0, 0, 3, 2);
            got(x, 1, 2, 0, 3);
            got(x, 1, 1, -1, 2);
            got(x, 4, 0, 0, 2);
            got(x, 2, 0, 0, 3);
            got(x, 2, 2, GREATEST, 2);
            got(x, 3, 2, LEAST, 1);
            is("one that is there leaves the finding", x.get(2, 2, 2), 0);
            is("one that is there leaves the finding", x.count(8), 1);
        }

        static void copyOrder() {
            says("36: BAD: the SHEETS; NULL: s, t; STORE; INDEX, the first that fits");
            BoardRemembers x = three();
            for (int bad : new int[] {-1, 4, LEAST, GREATEST}) {
                is("s " + bad, x.copy(bad, -1, 3, -1, -1), BAD);
                is("t " + bad, x.copy(3, -1, bad, -1, -1), BAD);
            }
            is("no finding", x.count(8), 0);
            is("s is lost", x.copy(3, -1, 0, -1, -1), NULL);
            is("t is lost", x.copy(0, -1, 3, -1, -1), NULL);
            is("both are", x.copy(3, 0, 3, 0, 0), NULL);
            is("the finding", x.count(8), 1);
            for (int s = 0; s < 3; s++) {
                for (int t = 0; t < 3; t++) {
                    is("forms " + s + " " + t, x.copy(s, -1, t, -1, -1), s == t ? INDEX : STORE);
                    is("the finding", x.count(8), s == t ? 2 : 4);
                    is("none of forms " + s + " " + t, x.copy(s, 0, t, 0, 0), s == t ? 1 : STORE);
                }
            }
        }

        static void copyIndex() {
            says("36: INDEX: below 0, not so many");
            BoardRemembers x = new BoardRemembers();
            x.sheet(0, 2, 5);
            x.sheet(1, 2, 3);
            int[][] well = {{0, 0, 3}, {2, 0, 3}, {4, 2, 1}, {5, 3, 0}, {0, 0, 0}};
            for (int[] w : well) {
                is(w[0] + " " + w[1] + " " + w[2], x.copy(0, w[0], 1, w[1], w[2]), 1);
            }
            is("no finding", x.count(8), 0);
            int[][] bad = {{-1, 0, 1}, {0, -1, 1}, {0, 0, -1}, {-1, 0, 0}, {0, -1, 0}, {3, 0, 3}, {0, 1, 3}, {0, 0, 4},
                {6, 0, 0}, {0, 4, 0}, {5, 0, 1}, {0, 3, 1}, {1, 0, GREATEST}, {GREATEST, 0, 1}, {0, GREATEST, 1},
                {GREATEST, GREATEST, GREATEST}, {LEAST, LEAST, LEAST}, {5, 3, LEAST}, {GREATEST, 0, LEAST}};
            for (int[] b : bad) {
                is(b[0] + " " + b[1] + " " + b[2], x.copy(0, b[0], 1, b[1], b[2]), INDEX);
            }
            is("the finding", x.count(8), 2);
            x.sheet(2, 2, 0);
            is("none of none", x.copy(2, 0, 2, 0, 0), 1);
            is("one of none", x.copy(2, 0, 2, 0, 1), INDEX);
        }

        static void copyAsTheyWere() {
            says("36: come to SHEET t (perhaps s, as they were)");
            for (int form = 0; form < 3; form++) {
                for (int i = 0; i < 4; i++) {
                    for (int j = 0; j < 4; j++) {
                        BoardRemembers x = new BoardRemembers();
                        x.sheet(0, form, 6);
                        int[] due = {11, 12, 13, 14, 15, 16};
                        for (int at = 0; at < 6; at++) {
                            x.put(0, form, at, 11 + at);
                        }
                        is("copy", x.copy(0, i, 0, j, 3), 1);
                        for (int at = 0; at < 3; at++) {
                            due[j + at] = 11 + i + at;
                        }
                        for (int at = 0; at < 6; at++) {
                            is("item " + at + " from " + i + " to " + j, x.get(0, form, at), due[at]);
                        }
                    }
                }
            }
        }

        static void write() {
            says("37: comes to a SHEET from item 0 on, as many as there are items, 36 at most. BAD; NULL.");
            BoardRemembers x = board("", "0000f1;0055b1");
            for (int bad : new int[] {-1, LEAST, GREATEST}) {
                is("day " + bad, x.write(bad, 0), BAD);
                is("sheet " + bad, x.write(0, bad), BAD);
            }
            is("day 20", x.write(20, 0), BAD);
            is("sheet 4", x.write(0, 4), BAD);
            is("no finding", x.count(8), 0);
            is("lost", x.write(19, 0), NULL);
            is("the finding", x.count(8), 1);
            for (int n : new int[] {0, 1, 35, 36, 37, 60}) {
                x.sheet(0, 0, n);
                x.put(0, 0, n - 1, 77);
                is(n + " items", x.write(19, 0), Math.min(n, 36));
                is("the first of " + n, x.get(0, 0, 0), n == 0 ? LEAST : 5);
                is("the last of " + n, x.get(0, 0, n - 1), n == 0 ? LEAST : n == 1 ? 5 : n > 36 ? 77 : n == 36 ? 1 : NONE);
            }
            is("cell 35", x.get(0, 0, 35), 1);
            is("cell 34, nothing", x.get(0, 0, 34), NONE);
            is("behind the cells", x.get(0, 0, 36), 0);
        }

        static void count() {
            says("38: 0 to 8. BAD.");
            BoardRemembers x = eightThatComeUp();
            for (int what : new int[] {-1, 9, LEAST, GREATEST}) {
                is("count(" + what + ")", x.count(what), BAD);
            }
            int[] due = {20, 8, 20, 55, 6, 0, 152, 0, 0};
            for (int what = 0; what < 9; what++) {
                is("count(" + what + ")", x.count(what), due[what]);
            }
            says("38: the number of the latest FINDING (0 before any)");
            x.sheet(0, 0, 1);
            x.sheet(1, 1, 1);
            int[] dueFindings = {NULL, INDEX, CAST, STORE, SIZE};
            for (int number = 1; number <= 5; number++) {
                long answer = number == 1 ? x.lose(2) : number == 2 ? x.put(0, 0, 1, 0) : number == 3 ? x.put(0, 1, 0, 0)
                        : number == 4 ? x.copy(0, 0, 1, 0, 1) : x.sheet(2, 0, -1);
                is("finding " + number, answer, dueFindings[number - 1]);
                is("its number", x.count(8), number);
            }
            x.type(2, 0);
            x.back(1);
            x.lose(0);
            is("no other refusal, and no call that is well, changes it", x.count(8), 5);
        }

        static void digest() {
            says("39: as longs that wrap");
            is("of a new one", new BoardRemembers().digest(), byHandOfNew());
            BoardRemembers x = eightThatComeUp();
            long before = x.digest();
            is("again", x.digest(), before);
            x.lose(0);
            is("count() 8 is not in it", x.digest(), before);
            x.sheet(0, 0, 9);
            is("sheets are not in it", x.digest(), before);
        }

        static long byHandOfNew() {
            long h = 17;
            for (int i = 0; i < 8; i++) {
                h = 31 * h;
            }
            h = 31 * (31 * h + NONE) + NONE;
            for (int day = 0; day < 4; day++) {
                h = 31 * (31 * (31 * h)) + NONE;
                for (int cell = 0; cell < 36; cell++) {
                    h = 31 * h + NONE;
                }
            }
            // misread 0 and 1, most; oil and dry 0 and 1, never, ask 0 and 7; dryness 1 by 1; weather 0 and 1.
            long[] rest = {NONE, NONE, NONE, 0, 0, 0, 0, 0, 0, 0, 1, 1, 0, 0};
            for (long v : rest) {
                h = 31 * h + v;
            }
            return h;
        }
    }

    /** "They change nothing (FINDINGS but count() 8)": each refused call beside a board spared it. */
    private static final class BoundaryRefusals {
        static void all() {
            onNew();
            onFull();
            bads();
            findings();
        }

        /** All that can be asked of a board, as one number. */
        static long whole(BoardRemembers x, boolean full) {
            long h = x.digest();
            int fine = x.fine(0);
            h = 31 * h + fine;
            // With another fine other strengths show, which the first digest may not tell apart.
            h = 31 * h + x.digest();
            for (int s = 0; s < 3 && full; s++) {
                for (int i = 0; i < 60; i += 7) {
                    h = 31 * h + x.get(s, s, i);
                }
                h = 31 * h + x.lose(s);
            }
            return h;
        }

        static BoardRemembers full() {
            BoardRemembers x = eightThatComeUp();
            x.clean(2, 2);
            x.clean(2, 3);
            for (int i = 0; i < 4; i++) {
                x.grease(5 + i, i);
            }
            for (int i = 0; i < 8; i++) {
                x.seen(1, 35, 1);
            }
            for (int s = 0; s < 3; s++) {
                x.sheet(s, s, 60);
                for (int i = 0; i < 60; i += 7) {
                    x.put(s, s, i, 100 + i);
                }
            }
            return x;
        }

        static void refused(String call, Supplier<BoardRemembers> maker, ToLongFunction<BoardRemembers> act,
                long due, int finding) {
            BoardRemembers x = maker.get();
            BoardRemembers spared = maker.get();
            is(call, act.applyAsLong(x), due);
            is("count(8) behind " + call, x.count(8), finding);
            boolean full = x.count(7) == 8;
            is("all the rest behind " + call, whole(x, full), whole(spared, full));
        }

        static void onNew() {
            says("Refusals change nothing: NOT and NULL, of an empty one");
            Supplier<BoardRemembers> none = BoardRemembers::new;
            refused("undo(0)", none, x -> x.undo(0), NOT, 0);
            refused("undo(1)", none, x -> x.undo(1), NOT, 0);
            refused("back(0)", none, x -> x.back(0), NOT, 0);
            refused("back(1)", none, x -> x.back(1), NOT, 0);
            refused("read(0)", none, x -> x.read(0), NULL, 1);
            refused("lose(0)", none, x -> x.lose(0), NULL, 1);
            refused("put(0, 0, 0, 0)", none, x -> x.put(0, 0, 0, 0), NULL, 1);
            refused("get(0, 0, 0)", none, x -> x.get(0, 0, 0), LEAST, 1);
            refused("copy(0, 0, 1, 0, 0)", none, x -> x.copy(0, 0, 1, 0, 0), NULL, 1);
            refused("write(0, 0)", none, x -> x.write(0, 0), NULL, 1);
        }

        static void onFull() {
            says("Refusals change nothing: FULL");
            Supplier<BoardRemembers> full = BoundaryRefusals::full;
            refused("type(0, 48)", full, x -> x.type(0, 48), FULL, 0);
            refused("type(1, 59)", full, x -> x.type(1, 59), FULL, 0);
            refused("clean(3, 4)", full, x -> x.clean(3, 4), FULL, 0);
            refused("grease(0, 4)", full, x -> x.grease(0, 4), FULL, 0);
            refused("seen(0, 0, 0)", full, x -> x.seen(0, 0, 0), FULL, 0);
            says("read() of full WIPES takes none");
            refused("read(0)", full, x -> x.read(0), 0, 0);
        }

        static void bads() {
            says("Refusals change nothing: BAD, ahead of all others");
            Supplier<BoardRemembers> full = BoundaryRefusals::full;
            for (int far : new int[] {-1, 256, LEAST, GREATEST}) {
                refused("type(far, 48)", full, x -> x.type(far, 48), BAD, 0);
                refused("type(0, far)", full, x -> x.type(0, far), BAD, 0);
                refused("wipe", full, x -> x.wipe(far), BAD, 0);
                refused("undo", full, x -> x.undo(far), BAD, 0);
                refused("fault", full, x -> x.fault(far), BAD, 0);
                refused("damp", full, x -> x.damp(far), BAD, 0);
                refused("stroke", full, x -> x.stroke(far, 0), BAD, 0);
                refused("stroke", full, x -> x.stroke(0, far), BAD, 0);
                refused("fine", full, x -> x.fine(far), BAD, 0);
                refused("clean", full, x -> x.clean(far, 0), BAD, 0);
                refused("clean", full, x -> x.clean(0, far), BAD, 0);
                refused("grease", full, x -> x.grease(far, 0), BAD, 0);
                refused("grease", full, x -> x.grease(0, far), BAD, 0);
                refused("back", full, x -> x.back(far), BAD, 0);
                refused("read", full, x -> x.read(far), BAD, 0);
                refused("stands", full, x -> x.stands(far, 0), BAD, 0);
                refused("stands", full, x -> x.stands(0, far), BAD, 0);
                refused("state", full, x -> x.state(far, 0, 0), BAD, 0);
                refused("state", full, x -> x.state(0, far, 0), BAD, 0);
                refused("state", full, x -> x.state(0, 0, far), BAD, 0);
                refused("up", full, x -> x.up(far), BAD, 0);
                refused("through", full, x -> x.through(far), BAD, 0);
                refused("misread", full, x -> x.misread(far), BAD, 0);
                refused("deep", full, x -> x.deep(far), BAD, 0);
                refused("oil", full, x -> x.oil(far), BAD, 0);
                refused("when", full, x -> x.when(far, 0), BAD, 0);
                refused("when", full, x -> x.when(0, far), BAD, 0);
                refused("place", full, x -> x.place(far, 0), BAD, 0);
                refused("place", full, x -> x.place(0, far), BAD, 0);
                refused("dry", full, x -> x.dry(far), BAD, 0);
                refused("seen", full, x -> x.seen(far, 0, 0), BAD, 0);
                refused("seen", full, x -> x.seen(0, far, 0), BAD, 0);
                refused("seen", full, x -> x.seen(0, 0, far), BAD, 0);
                refused("sign", full, x -> x.sign(far), BAD, 0);
                refused("chalk", full, x -> x.chalk(far), BAD, 0);
                refused("ask", full, x -> x.ask(far), BAD, 0);
                refused("dryness", full, x -> x.dryness(far, 0, 0, 0), LONG_BAD, 0);
                refused("dryness", full, x -> x.dryness(0, far, 0, 0), LONG_BAD, 0);
                refused("dryness", full, x -> x.dryness(0, 0, far, 0), LONG_BAD, 0);
                refused("dryness", full, x -> x.dryness(0, 0, 0, far), LONG_BAD, 0);
                refused("weather", full, x -> x.weather(1, far, 0), BAD, 0);
                refused("weather", full, x -> x.weather(1, 1, far), BAD, 0);
                refused("sheet", full, x -> x.sheet(far, 0, -1), BAD, 0);
                refused("sheet", full, x -> x.sheet(0, far, -1), BAD, 0);
                refused("lose", full, x -> x.lose(far), BAD, 0);
                refused("put", full, x -> x.put(far, 0, 0, 1), BAD, 0);
                refused("put", full, x -> x.put(0, far, 0, 1), BAD, 0);
                refused("get", full, x -> x.get(far, 0, 0), LEAST, 0);
                refused("get", full, x -> x.get(0, far, 0), LEAST, 0);
                refused("copy", full, x -> x.copy(far, 0, 0, 0, 1), BAD, 0);
                refused("copy", full, x -> x.copy(0, 0, far, 0, 1), BAD, 0);
                refused("write", full, x -> x.write(far, 0), BAD, 0);
                refused("write", full, x -> x.write(0, far), BAD, 0);
                refused("count", full, x -> x.count(far), BAD, 0);
            }
            refused("weather of 0", full, x -> x.weather(1, 0, 0), BAD, 0);
            refused("weather of 21", full, x -> x.weather(1, 21, 0), BAD, 0);
            refused("sheet above 60", full, x -> x.sheet(0, 0, 61), BAD, 0);
        }

        static void findings() {
            says("FINDINGS change nothing but count() 8");
            Supplier<BoardRemembers> full = BoundaryRefusals::full;
            refused("read(3)", full, x -> x.read(3), NULL, 1);
            refused("lose(3)", full, x -> x.lose(3), NULL, 1);
            refused("write(1, 3)", full, x -> x.write(1, 3), NULL, 1);
            refused("put of a lost one", full, x -> x.put(3, 1, 0, 5), NULL, 1);
            refused("put of item 60", full, x -> x.put(0, 0, 60, 5), INDEX, 2);
            refused("put of item -1", full, x -> x.put(0, 0, -1, 5), INDEX, 2);
            refused("put in another form", full, x -> x.put(0, 1, 0, 5), CAST, 3);
            refused("get of a lost one", full, x -> x.get(3, 1, 0), LEAST, 1);
            refused("get of item 60", full, x -> x.get(0, 0, 60), LEAST, 2);
            refused("get in another form", full, x -> x.get(0, 1, 0), LEAST, 3);
            refused("copy from a lost one", full, x -> x.copy(3, 0, 0, 0, 1), NULL, 1);
            refused("copy to a lost one", full, x -> x.copy(0, 0, 3, 0, 1), NULL, 1);
            refused("copy to another form", full, x -> x.copy(0, 0, 1, 0, 1), STORE, 4);
            refused("copy of too many", full, x -> x.copy(0, 7, 0, 0, 54), INDEX, 2);
            refused("copy to too few", full, x -> x.copy(0, 0, 0, 7, 54), INDEX, 2);
            refused("copy of less than none", full, x -> x.copy(0, 0, 0, 0, -1), INDEX, 2);
            refused("sheet below 0", full, x -> x.sheet(0, 0, -1), SIZE, 5);
        }
    }
}
