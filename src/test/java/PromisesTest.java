/** For each promise of the document: ordinary inputs, the edges that it names, wrong inputs. */
public final class PromisesTest {
    private static final int NONE = -1, BAD = -2, NOT = -3, FULL = -4;
    private static final int NULL = -11, INDEX = -12, CAST = -13, STORE = -14, SIZE = -15;
    private static final int LEAST = Integer.MIN_VALUE;
    private static final int[] FAR = {-1, Integer.MIN_VALUE, Integer.MAX_VALUE};
    private static int wrong = 0;
    private static int checks = 0;
    private static int promise = 0;

    public static void main(String[] args) {
        newObject();
        texts();
        faults();
        damps();
        strokes();
        wipesAndOils();
        wipesFromSheets();
        days();
        whatComesUpFirst();
        strengths();
        misreadMostDeep();
        oil();
        whenPlaceDry();
        sights();
        dryness();
        weather();
        sheets();
        copies();
        written();
        counts();
        digests();
        refusalsChangeNothing();
        System.out.println(checks + " checks of the promises, " + wrong + " wrong");
        if (wrong != 0) {
            System.exit(1);
        }
    }

    private static void is(String what, long got, long want) {
        checks++;
        if (got != want) {
            wrong++;
            System.out.println("promise " + promise + ": " + what + " answered " + got + ", due is " + want);
        }
    }

    private static void typed(BoardRemembers x, int text, String bytes) {
        for (int i = 0; i < bytes.length(); i++) {
            x.type(text, bytes.charAt(i));
        }
    }

    private static BoardRemembers board(String damps, String strokes) {
        BoardRemembers x = new BoardRemembers();
        typed(x, 0, damps);
        typed(x, 1, strokes);
        return x;
    }

    /** An a of chalk 5 on day 0 on cell 0, wiped on day 1, that comes up on day 4 alone. */
    private static BoardRemembers oneThatComesUp() {
        BoardRemembers x = board("00556", "0000a5");
        x.clean(1, 0);
        return x;
    }

    private static void newObject() {
        promise = 1;
        BoardRemembers x = new BoardRemembers();
        for (int what = 0; what <= 8; what++) {
            is("count " + what, x.count(what), 0);
        }
        is("fine at first", x.fine(3), 3);
        for (int s = 0; s < 4; s++) {
            is("lose", x.lose(s), NULL);
        }
        is("damp", x.damp(7), 0);
        is("never", x.never(), 0);
    }

    private static void texts() {
        promise = 2;
        BoardRemembers x = new BoardRemembers();
        for (int text = 0; text < 2; text++) {
            int room = text == 0 ? 20 : 55;
            for (int i = 1; i <= room; i++) {
                is("type", x.type(text, i % 2 == 0 ? 0 : 255), i);
            }
            is("type when full", x.type(text, 48), FULL);
            is("type bad before full", x.type(text, 256), BAD);
            is("bytes", x.count(2 + text), room);
        }
        is("type text 2", x.type(2, 48), BAD);
        for (int far : FAR) {
            is("type text " + far, x.type(far, 48), BAD);
            is("type byte " + far, new BoardRemembers().type(0, far), BAD);
        }
        promise = 3;
        is("wipe", x.wipe(0), 20);
        is("wipe again", x.wipe(0), 0);
        is("wipe", x.wipe(1), 55);
        is("wipe 2", x.wipe(2), BAD);
        is("wipe -1", x.wipe(-1), BAD);
        is("room again", x.type(0, 48), 1);
        BoardRemembers y = oneThatComesUp();
        is("come up", y.count(6), 1);
        y.wipe(0);
        is("no damps behind a wipe", y.count(6), 0);
        is("a stroke", y.up(0), 0);
        y.wipe(1);
        is("no strokes behind a wipe", y.up(0), BAD);
        promise = 4;
        is("undo", x.undo(0), 0);
        is("undo empty", x.undo(0), NOT);
        is("undo empty", x.undo(1), NOT);
        is("undo 2", x.undo(2), BAD);
        is("undo -1", x.undo(-1), BAD);
        typed(x, 1, "0000a5;");
        is("a stroke not ended", x.count(1), 0);
        is("undo", x.undo(1), 6);
        is("a stroke again", x.count(1), 1);
    }

    private static int faultOf(int text, String bytes) {
        BoardRemembers x = new BoardRemembers();
        typed(x, text, bytes);
        return x.fault(text);
    }

    private static void faults() {
        promise = 5;
        is("empty damps", faultOf(0, ""), NONE);
        is("empty strokes", faultOf(1, ""), NONE);
        is("damps", faultOf(0, "01234567899876543210"), NONE);
        is("damps /", faultOf(0, "12/4"), 2);
        is("damps :", faultOf(0, ":"), 0);
        is("damps two faults", faultOf(0, "1x2x"), 1);
        String well = "0000a1;1955f9;0955f9;1000a1;0000a1;1955f9;0955f9;1000a1";
        is("eight strokes", faultOf(1, well), NONE);
        String[] bad = {"/2", "/:", "/6", "/6", "`g", "0:", ":<"};
        for (int i = 0; i < 7; i++) {
            for (char b : bad[i].toCharArray()) {
                is("strokes with " + b + " at " + i, faultOf(1, "0000a1;".substring(0, i) + b + "0000"), i);
            }
            is("strokes ended at " + i, faultOf(1, "0000a1;".substring(0, i)), i == 0 || i == 6 ? NONE : i);
        }
        is("strokes ended behind ;", faultOf(1, "0000a1;"), 7);
        is("strokes without an eighth", faultOf(1, well.substring(0, 49)), 49);
        is("text 2", new BoardRemembers().fault(2), BAD);
        is("text -1", new BoardRemembers().fault(-1), BAD);
        BoardRemembers x = board("12x", "0000a1;19");
        is("no damps by a fault", x.count(0), 0);
        is("no damp by a fault", x.damp(0), 0);
        is("no strokes by a fault", x.count(1), 0);
        is("bytes all the same", x.count(2), 3);
        is("bytes all the same", x.count(3), 9);
    }

    private static void damps() {
        promise = 6;
        BoardRemembers x = board("907", "");
        is("damp", x.damp(0), 9);
        is("damp", x.damp(1), 0);
        is("damp", x.damp(2), 7);
        is("damp on a later day", x.damp(3), 0);
        is("damp 19", x.damp(19), 0);
        is("damp 20", x.damp(20), BAD);
        is("damp of the last", board("00000000000000000008", "").damp(19), 8);
        for (int far : FAR) {
            is("damp " + far, x.damp(far), BAD);
        }
    }

    private static void strokes() {
        promise = 7;
        BoardRemembers x = board("", "0012c4;1954f9");
        int[][] due = {{0, 8, 2, 4}, {19, 34, 5, 9}};
        for (int k = 0; k < 2; k++) {
            for (int what = 0; what < 4; what++) {
                is("stroke " + k + " " + what, x.stroke(k, what), due[k][what]);
            }
        }
        is("stroke what 4", x.stroke(0, 4), BAD);
        is("stroke what -1", x.stroke(0, -1), BAD);
        is("stroke 2", x.stroke(2, 0), BAD);
        for (int far : FAR) {
            is("stroke " + far, x.stroke(far, 0), BAD);
        }
        promise = 8;
        is("fine", x.fine(0), 3);
        is("fine", x.fine(9), 0);
        is("fine 10", x.fine(10), BAD);
        is("fine -1", x.fine(-1), BAD);
        is("fine", x.fine(3), 9);
    }

    private static void wipesAndOils() {
        BoardRemembers x = new BoardRemembers();
        promise = 9;
        for (int i = 1; i <= 8; i++) {
            is("clean", x.clean(19, 5), i);
        }
        is("clean when full", x.clean(0, 0), FULL);
        is("clean bad before full", x.clean(20, 0), BAD);
        is("clean bad line", x.clean(0, 6), BAD);
        is("clean bad day", x.clean(-1, 0), BAD);
        is("clean bad line", x.clean(0, -1), BAD);
        promise = 10;
        for (int i = 1; i <= 4; i++) {
            is("grease", x.grease(0, 0), i);
        }
        is("grease when full", x.grease(0, 0), FULL);
        is("grease bad before full", x.grease(0, 6), BAD);
        is("grease bad day", x.grease(20, 0), BAD);
        is("grease bad line", x.grease(0, -1), BAD);
        promise = 11;
        is("back wipe", x.back(0), 7);
        is("back oil", x.back(1), 3);
        is("back 2", x.back(2), BAD);
        is("back -1", x.back(-1), BAD);
        for (int left = 2; left >= 0; left--) {
            is("back oil", x.back(1), left);
        }
        is("back none", x.back(1), NOT);
        is("back none", new BoardRemembers().back(0), NOT);
        BoardRemembers y = oneThatComesUp();
        y.grease(0, 0);
        is("oiled", y.count(6), 0);
        y.back(1);
        is("oil undone", y.count(6), 1);
        y.back(0);
        is("wipe undone", y.state(19, 0, 0), 1);
    }

    private static void wipesFromSheets() {
        promise = 12;
        BoardRemembers x = new BoardRemembers();
        is("read lost", x.read(0), NULL);
        is("finding", x.count(8), 1);
        is("read 4", x.read(4), BAD);
        is("read -1", x.read(-1), BAD);
        x.sheet(0, 0, 5);
        x.put(0, 0, 1, 5);
        x.put(0, 0, 2, 19);
        x.put(0, 0, 4, 3);
        is("read whole ones", x.read(0), 2);
        is("wipes", x.count(4), 2);
        x.put(0, 0, 3, 6);
        is("read up to one that may not be", x.read(0), 1);
        is("wipes more", x.count(4), 3);
        x.sheet(1, 2, 20);
        is("read until full", x.read(1), 5);
        is("wipes", x.count(4), 8);
        is("read when full", x.read(1), 0);
        x.sheet(2, 1, 1);
        is("read half a one", x.read(2), 0);
        BoardRemembers y = board("", "0000a5");
        y.sheet(0, 1, 2);
        y.put(0, 1, 0, 1);
        y.read(0);
        is("wiped by it", y.state(1, 0, 0), 2);
        y.sheet(0, 0, 4);
        y.put(0, 0, 0, 20);
        is("read a first that may not be", y.read(0), 0);
        y.put(0, 0, 0, 255);
        is("read a day below 0", y.read(0), 0);
    }

    private static void days() {
        BoardRemembers x = oneThatComesUp();
        promise = 13;
        is("written", x.stands(0, 0), 0);
        is("wiped", x.stands(1, 0), NONE);
        is("9 together", x.stands(3, 0), NONE);
        is("10 together", x.stands(4, 0), 6);
        is("dry again", x.stands(5, 0), NONE);
        is("elsewhere", x.stands(4, 1), NONE);
        is("cell 35", x.stands(19, 35), NONE);
        is("cell 36", x.stands(0, 36), BAD);
        is("day 20", x.stands(20, 0), BAD);
        is("cell -1", x.stands(0, -1), BAD);
        is("day -1", x.stands(-1, 0), BAD);
        promise = 14;
        int[] what = {1, 2, 2, 2, 3, 2, 2, 2, 2, 2, 2};
        int[] strong = {NONE, 4, 4, 4, 5, 4, 3, 2, 1, 0, 0};
        for (int day = 0; day < 11; day++) {
            is("state " + day, x.state(day, 0, 0), what[day]);
            is("strong " + day, x.state(day, 0, 1), strong[day]);
        }
        BoardRemembers late = board("", "0300a5");
        is("not yet", late.state(2, 0, 0), 0);
        is("not yet strong", late.state(2, 0, 1), NONE);
        is("written", late.state(3, 0, 0), 1);
        is("state day 20", x.state(20, 0, 0), BAD);
        is("state stroke 1", x.state(0, 1, 0), BAD);
        is("state what 2", x.state(0, 0, 2), BAD);
        is("state day -1", x.state(-1, 0, 0), BAD);
        is("state stroke -1", x.state(0, -1, 0), BAD);
        is("state what -1", x.state(0, 0, -1), BAD);
        promise = 15;
        is("up", x.up(0), 1);
        is("up 1", x.up(1), BAD);
        is("up -1", x.up(-1), BAD);
        promise = 16;
        is("through 3", x.through(3), 0);
        is("through 4", x.through(4), 1);
        is("through 20", x.through(20), BAD);
        is("through -1", x.through(-1), BAD);
    }

    private static void whatComesUpFirst() {
        promise = 13;
        BoardRemembers sameDay = board("9", "0000a5;0000b6;0000c7");
        is("the last of a day is written", sameDay.stands(0, 0), 2);
        is("the one before went in", sameDay.state(0, 1, 0), 2);
        BoardRemembers wipedThatDay = board("09", "0000a5;0100b6");
        wipedThatDay.clean(1, 0);
        is("wiped ahead of what is written", wipedThatDay.stands(1, 0), 1);
        is("not wiped on its own day", wipedThatDay.state(19, 1, 0), 1);
        BoardRemembers like = board("39", "0000a5;0000b5;0000c4");
        like.clean(1, 0);
        is("of like ones the greatest", like.stands(1, 0), 7);
        BoardRemembers stronger = board("39", "0000a6;0000b5");
        stronger.clean(1, 0);
        is("the strongest", stronger.stands(1, 0), 6);
        BoardRemembers under = board("99", "0000a9;0000b1");
        is("nothing through what is written", under.through(1), 0);
        promise = 10;
        BoardRemembers x = oneThatComesUp();
        x.grease(4, 0);
        is("oiled by that day", x.up(0), 0);
        x.back(1);
        x.grease(5, 0);
        is("oiled too late", x.up(0), 1);
        x.grease(0, 1);
        is("another line oiled", x.up(0), 1);
        x.grease(3, 0);
        is("oiled twice, the earlier counts", x.up(0), 0);
    }

    private static void strengths() {
        promise = 14;
        BoardRemembers top = board("099", "0000a9");
        top.clean(1, 0);
        is("9 at most", top.state(2, 0, 1), 9);
        promise = 8;
        BoardRemembers x = board("22222", "0000a5");
        x.clean(1, 0);
        is("below fine", x.state(4, 0, 1), 1);
        x.fine(2);
        is("not below fine", x.state(4, 0, 1), 5);
        x.fine(0);
        is("never fine", x.state(19, 0, 1), 5);
        BoardRemembers two = board("05", "0000a9;0011b4");
        two.fine(6);
        two.clean(1, 0);
        two.clean(1, 1);
        is("comes up on a fine day", two.stands(1, 0), 6);
        is("and is not weaker", two.state(1, 0, 1), 9);
        is("another is", two.state(1, 1, 1), 3);
        is("weaker on day 0", board("2", "0000a5;0000b1").state(0, 0, 1), 4);
        is("not weaker on day 0", board("3", "0000a5;0000b1").state(0, 0, 1), 5);
        BoardRemembers covered = board("", "0000a9;0100b1");
        is("weaker under what is written", covered.state(3, 0, 1), 6);
    }

    private static void misreadMostDeep() {
        promise = 17;
        BoardRemembers x = board("00556", "0000a5;0203b2;0010c5;0312d1");
        x.clean(1, 0);
        x.clean(1, 1);
        is("misread day", x.misread(0), 4);
        is("misread line", x.misread(1), 0);
        BoardRemembers alone = oneThatComesUp();
        is("nothing to be misread", alone.misread(0), NONE);
        is("nothing to be misread", alone.misread(1), NONE);
        BoardRemembers lineOne = board("00556", "0000a5;0010c5;0312d1");
        lineOne.clean(1, 0);
        lineOne.clean(1, 1);
        is("misread line 1", lineOne.misread(1), 1);
        is("misread 2", x.misread(2), BAD);
        is("misread -1", x.misread(-1), BAD);
        promise = 18;
        is("most, the least of like ones", x.most(), 0);
        BoardRemembers second = board("00556", "0000a4;0010c5");
        second.clean(1, 0);
        second.clean(1, 1);
        is("most", second.most(), 1);
        is("most, one that never comes up", board("", "0001b5").most(), 0);
        is("most, all come up on 0 days", board("00556", "0900a4;0010c5;0000b4").most(), 0);
        is("most of no strokes", new BoardRemembers().most(), NONE);
        is("most of no strokes, with damps", board("99999", "").most(), NONE);
        BoardRemembers faulty = board("", "0001b5;");
        is("most, with a fault there are no strokes", faulty.most(), NONE);
        faulty.undo(1);
        is("most, the fault undone", faulty.most(), 0);
        faulty.wipe(1);
        is("most, the strokes wiped", faulty.most(), NONE);
        promise = 19;
        BoardRemembers deep = board("", "0035a1;0035b1;0001c1;0101d1;0201e1");
        is("deep 0", deep.deep(0), 23);
        is("deep 1", deep.deep(1), 1);
        is("deep 2", deep.deep(2), 1);
        is("none has", board("", "0000a1").deep(19), NONE);
        is("deep 20", deep.deep(20), BAD);
        is("deep -1", deep.deep(-1), BAD);
    }

    private static void oil() {
        promise = 20;
        BoardRemembers x = board("09", "0000a5;0015b5;0020c5;0053d1");
        is("nothing comes up", x.oil(0), 0);
        is("nothing comes up", x.oil(1), 0);
        for (int line = 0; line < 6; line++) {
            x.clean(1, line);
        }
        x.grease(1, 1);
        is("how many", x.oil(0), 3);
        is("bits", x.oil(1), 37);
        x.back(1);
        is("more than 3", x.oil(0), NONE);
        is("more than 3", x.oil(1), NONE);
        x.grease(2, 1);
        is("oiled too late", x.oil(0), NONE);
        is("oil 2", x.oil(2), BAD);
        is("oil -1", x.oil(-1), BAD);
    }

    private static void whenPlaceDry() {
        BoardRemembers x = oneThatComesUp();
        promise = 21;
        is("behind the wipe", x.when(0, 0), 1);
        is("how many", x.when(0, 1), 0);
        BoardRemembers late = board("9", "0700a5");
        is("of like ones the least", late.when(0, 0), 0);
        is("what stays as told", late.stroke(0, 0), 7);
        BoardRemembers order = board("9999", "0000a5;0100b5");
        order.clean(2, 0);
        is("fewest by being under", order.when(1, 0), 2);
        is("none", order.when(1, 1), 0);
        is("when stroke 1", x.when(1, 0), BAD);
        is("when what 2", x.when(0, 2), BAD);
        is("when -1", x.when(-1, 0), BAD);
        promise = 22;
        is("a line that is not wiped", x.place(0, 0), 6);
        is("how many", x.place(0, 1), 0);
        BoardRemembers cover = board("0999", "0000a5;0110b5");
        cover.clean(1, 0);
        is("the one that covers", cover.place(1, 0), 0);
        is("how many", cover.place(1, 1), 0);
        is("the other counts too", cover.place(0, 1), 0);
        BoardRemembers nowhere = board("09", "0533a9;0000b9");
        for (int line = 0; line < 6; line++) {
            nowhere.clean(1, line);
        }
        is("no cell is better", nowhere.place(1, 0), 0);
        is("how many", nowhere.place(1, 1), 1);
        is("place stroke 1", x.place(1, 0), BAD);
        is("place what 2", x.place(0, 2), BAD);
        is("place -1", x.place(0, -1), BAD);
        promise = 23;
        is("a dry day that weakens", x.dry(0), 2);
        is("how many", x.dry(1), 0);
        x.fine(0);
        is("nothing weakens: it comes up from day 2 on", x.count(6), 3);
        is("the day itself", x.dry(0), 2);
        is("how many", x.dry(1), 2);
        is("dry of none", new BoardRemembers().dry(0), 0);
        is("dry 2", x.dry(2), BAD);
        is("dry -1", x.dry(-1), BAD);
    }

    private static void sights() {
        promise = 24;
        BoardRemembers x = oneThatComesUp();
        for (int i = 1; i <= 8; i++) {
            is("seen", x.seen(19, 35, 6), i);
        }
        is("seen when full", x.seen(0, 0, 0), FULL);
        is("seen bad before full", x.seen(0, 0, 7), BAD);
        is("seen bad day", x.seen(20, 0, 0), BAD);
        is("seen bad cell", x.seen(0, 36, 0), BAD);
        is("seen -1", x.seen(-1, 0, 0), BAD);
        is("seen -1", x.seen(0, -1, 0), BAD);
        is("seen -1", x.seen(0, 0, -1), BAD);
        promise = 25;
        is("forget", x.forget(), 8);
        is("forget again", x.forget(), 0);
        promise = 26;
        is("never, nothing seen", x.never(), 1);
        x.seen(4, 0, 0);
        is("never", x.never(), 0);
        promise = 27;
        is("sign", x.sign(0), 1);
        is("sign 1", x.sign(1), BAD);
        is("sign -1", x.sign(-1), BAD);
        promise = 28;
        is("chalk", x.chalk(0), 992);
        is("chalk 1", x.chalk(1), BAD);
        is("chalk -1", x.chalk(-1), BAD);
        x.forget();
        x.seen(4, 0, 6);
        promise = 26;
        is("never, none came up", x.never(), 1);
        is("sign, none came up", x.sign(0), 0);
        is("chalk, none came up", x.chalk(0), 30);
        x.forget();
        x.seen(0, 0, 6);
        is("what is written did not come up", x.never(), 1);
        x.seen(0, 0, 0);
        is("what is written did not come up", x.sign(0), 0);
        asks();
    }

    private static void asks() {
        promise = 29;
        BoardRemembers x = board("", "0200a5;0210b5");
        is("ask", x.ask(0), 2);
        is("ask where all is alike", x.ask(12), 0);
        x.seen(0, 0, 0);
        is("ask of none", x.ask(0), 0);
        is("ask 36", x.ask(36), BAD);
        is("ask -1", x.ask(-1), BAD);
        BoardRemembers risen = board("0019", "0000a8;0000b9;0300b5");
        risen.clean(1, 0);
        risen.fine(0);
        risen.seen(2, 0, 1);
        is("the b that came up was", risen.never(), 5);
        is("not like: one written and one come up", risen.ask(0), 3);
        BoardRemembers apart = board("0009", "0000a5;0000b6;0300c4;0500d4");
        apart.clean(1, 0);
        apart.fine(0);
        apart.seen(2, 0, 6);
        is("any may never have been", apart.never(), 15);
        // Day 0: b, a, b, b. Day 3: c, c, b come up, c. Day 5: d, d, d, c. Day 19 as day 5.
        is("three alike at least", apart.ask(0), 0);
    }

    private static void dryness() {
        promise = 30;
        BoardRemembers x = oneThatComesUp();
        // It comes up on day 4 unless one of the days 2, 3, 4 is dry.
        long[][] due = {{8, 4, 4, 7, 8}, {4, 4, 4, 37, 64}, {4, 9, 4, 37, 64}, {4, 3, 4, 7, 16},
            {4, 2, 4, 1, 4}, {4, 1, 4, 0, 1}, {16, 0, 4, 0, 1}, {16, 2, 4, 1, 1}, {0, 9, 4, 0, 1},
            {1, 9, 3, 1, 1}, {3, 4, 4, 1899, 4096}, {5, 9, 19, 1, 1}};
        for (long[] d : due) {
            is("above " + d[0] + " " + d[1], x.dryness((int) d[0], (int) d[1], (int) d[2], 0), d[3]);
            is("below " + d[0] + " " + d[1], x.dryness((int) d[0], (int) d[1], (int) d[2], 1), d[4]);
        }
        // A fine below which a damp lies, or does not; with 0 no dry day makes anything weaker.
        int[][] fines = {{5, 4, 7, 8}, {6, 4, 1, 1}, {1, 4, 7, 8}, {0, 4, 1, 2}, {0, 3, 0, 1}};
        for (int[] f : fines) {
            x.fine(f[0]);
            is("above with fine " + f[0], x.dryness(8, f[1], 4, 0), f[2]);
            is("below with fine " + f[0], x.dryness(8, f[1], 4, 1), f[3]);
        }
        long bad = Long.MIN_VALUE + 2;
        is("17 sixteenths", x.dryness(17, 0, 0, 0), bad);
        is("-1 sixteenths", x.dryness(-1, 0, 0, 0), bad);
        is("last 10", x.dryness(0, 10, 0, 0), bad);
        is("last -1", x.dryness(0, -1, 0, 0), bad);
        is("day 20", x.dryness(0, 0, 20, 0), bad);
        is("day -1", x.dryness(0, 0, -1, 0), bad);
        is("what 2", x.dryness(0, 0, 0, 2), bad);
        is("what -1", x.dryness(0, 0, 0, -1), bad);
        BoardRemembers deep = board("9999999999", "0000a9;0000b9");
        deep.clean(1, 0);
        deep.fine(0);
        is("all ten days by chance", deep.dryness(1, 9, 9, 0), 1);
        is("all ten days by chance", deep.dryness(1, 9, 9, 1), 16);
    }

    private static void weather() {
        promise = 31;
        int[][] lots = {{1, 8, 6, 3, 3, 9, 5, 8, 7, 0, 6}, {-1, 7, 9, 2, 6, 3, 4, 8, 1, 0, 4}};
        for (int[] lot : lots) {
            for (int n = 1; n <= 10; n++) {
                StringBuilder damps = new StringBuilder();
                for (int i = 1; i <= n; i++) {
                    damps.append(lot[i]);
                }
                BoardRemembers x = board("99999999999999999999", "0000a9;0001b5");
                BoardRemembers y = board(damps.toString(), "0000a9;0001b5");
                x.clean(1, 0);
                y.clean(1, 0);
                int days = 0;
                for (int day = 0; day < 20; day++) {
                    days += y.through(day) > 0 ? 1 : 0;
                }
                is("how many by " + damps, x.weather(lot[0], n, 0), y.count(6));
                is("on how many days by " + damps, x.weather(lot[0], n, 1), days);
            }
        }
        BoardRemembers x = oneThatComesUp();
        is("n 0", x.weather(1, 0, 0), BAD);
        is("n 21", x.weather(1, 21, 0), BAD);
        is("what 2", x.weather(1, 1, 2), BAD);
        is("what -1", x.weather(1, 1, -1), BAD);
        is("as told behind it", x.count(6), 1);
    }

    private static void sheets() {
        BoardRemembers x = new BoardRemembers();
        promise = 32;
        is("sheet", x.sheet(0, 0, 60), 60);
        is("sheet of none", x.sheet(1, 1, 0), 0);
        is("above 60", x.sheet(0, 0, 61), BAD);
        is("below 0", x.sheet(2, 0, -1), SIZE);
        is("finding", x.count(8), 5);
        is("sheet 4", x.sheet(4, 0, -1), BAD);
        is("form 3", x.sheet(0, 3, -1), BAD);
        is("sheet -1", x.sheet(-1, 0, 1), BAD);
        is("form -1", x.sheet(0, -1, 1), BAD);
        promise = 33;
        is("a refused one is lost still", x.lose(2), NULL);
        is("finding", x.count(8), 1);
        is("lose", x.lose(0), 60);
        is("lose again", x.lose(0), NULL);
        is("lose one of none", x.lose(1), 0);
        is("lose 4", x.lose(4), BAD);
        is("lose -1", x.lose(-1), BAD);
        promise = 34;
        for (int form = 0; form < 3; form++) {
            x.sheet(form, form, 2);
            is("put", x.put(form, form, 1, 0x12348765), 1);
        }
        is("lost", x.put(3, 0, 0, 0), NULL);
        is("lost, in any form", x.put(3, 2, 9, 0), NULL);
        is("cast before index", x.put(0, 1, 9, 0), CAST);
        is("finding", x.count(8), 3);
        is("no such item", x.put(0, 0, 2, 0), INDEX);
        is("no such item", x.put(0, 0, -1, 0), INDEX);
        is("finding", x.count(8), 2);
        is("form 3", x.put(3, 3, 0, 0), BAD);
        is("sheet 4", x.put(4, 0, 0, 0), BAD);
        is("finding stays", x.count(8), 2);
        promise = 35;
        is("byte", x.get(0, 0, 1), 0x65);
        is("short", x.get(1, 1, 1), (short) 0x8765);
        is("int", x.get(2, 2, 1), 0x12348765);
        is("0 at first", x.get(2, 2, 0), 0);
        x.put(0, 0, 0, 200);
        is("bytes have a sign", x.get(0, 0, 0), -56);
        int[][] bad = {{4, 0, 0, 2}, {0, 3, 0, 2}, {-1, 0, 0, 2}, {0, -1, 0, 2}, {3, 0, 0, 1}, {0, 1, 9, 3},
            {0, 0, 2, 2}, {0, 0, -1, 2}};
        for (int[] b : bad) {
            is("get refused", x.get(b[0], b[1], b[2]), LEAST);
            is("finding", x.count(8), b[3]);
        }
        x.sheet(0, 0, 2);
        is("a new row", x.get(0, 0, 0), 0);
    }

    private static void copies() {
        promise = 36;
        BoardRemembers x = new BoardRemembers();
        x.sheet(0, 1, 5);
        x.sheet(1, 1, 3);
        x.sheet(2, 2, 3);
        for (int i = 0; i < 5; i++) {
            x.put(0, 1, i, i + 1);
        }
        is("onto itself, upward", x.copy(0, 0, 0, 1, 4), 1);
        int[] due = {1, 1, 2, 3, 4};
        for (int i = 0; i < 5; i++) {
            is("as they were", x.get(0, 1, i), due[i]);
        }
        is("to another", x.copy(0, 2, 1, 0, 3), 1);
        is("to another", x.get(1, 1, 2), 4);
        is("onto itself, downward", x.copy(0, 2, 0, 1, 3), 1);
        is("downward", x.get(0, 1, 1), 2);
        is("downward", x.get(0, 1, 3), 4);
        is("none", x.copy(0, 5, 1, 3, 0), 1);
        is("sheet 4", x.copy(4, 0, 3, 0, 0), BAD);
        is("sheet -1", x.copy(3, 0, -1, 0, 0), BAD);
        is("lost s", x.copy(3, 0, 2, -1, 0), NULL);
        is("lost t", x.copy(0, 0, 3, 0, -1), NULL);
        is("unlike forms before index", x.copy(0, 9, 2, 0, 0), STORE);
        is("finding", x.count(8), 4);
        int[][] bad = {{-1, 0, 1}, {0, -1, 1}, {0, 0, -1}, {3, 0, 3}, {0, 1, 3}, {6, 0, 0}, {0, 4, 0},
            {1, 0, Integer.MAX_VALUE}, {Integer.MAX_VALUE, 0, 1}, {0, Integer.MAX_VALUE, 1},
            {Integer.MAX_VALUE, Integer.MAX_VALUE, Integer.MAX_VALUE}, {Integer.MIN_VALUE, 0, 0}};
        for (int[] b : bad) {
            is("copy " + b[0] + " " + b[1] + " " + b[2], x.copy(0, b[0], 1, b[1], b[2]), INDEX);
        }
        is("finding", x.count(8), 2);
    }

    private static void written() {
        promise = 37;
        BoardRemembers x = board("00556", "0000a5;0001b4;0555f1");
        x.clean(1, 0);
        is("lost", x.write(4, 0), NULL);
        is("day before lost", x.write(20, 0), BAD);
        is("sheet 4", x.write(0, 4), BAD);
        is("day -1", x.write(-1, 0), BAD);
        is("sheet -1", x.write(0, -1), BAD);
        for (int form = 0; form < 3; form++) {
            x.sheet(form, form, 38);
            x.put(form, form, 36, 77);
            is("36 at most", x.write(5, form), 36);
            is("what stands", x.get(form, form, 35), 5);
            is("nothing", x.get(form, form, 0), NONE);
            is("beyond", x.get(form, form, 36), 77);
        }
        x.sheet(3, 2, 2);
        is("as many as there are items", x.write(4, 3), 2);
        is("come up", x.get(3, 2, 0), 6);
        is("not come up", x.get(3, 2, 1), NONE);
        x.write(0, 3);
        is("written", x.get(3, 2, 1), 1);
    }

    private static void counts() {
        promise = 38;
        BoardRemembers x = board("00556", "0000a5;0015b9");
        x.clean(1, 0);
        x.clean(1, 1);
        x.clean(2, 1);
        x.grease(19, 5);
        x.seen(0, 0, 0);
        x.seen(0, 0, 0);
        x.lose(0);
        // The a on day 4; the b, 8 behind day 1, on days 2 to 4.
        int[] due = {5, 2, 5, 13, 3, 1, 4, 2, 1};
        for (int what = 0; what < 9; what++) {
            is("count " + what, x.count(what), due[what]);
        }
        is("count 9", x.count(9), BAD);
        for (int far : FAR) {
            is("count " + far, x.count(far), BAD);
        }
    }

    private static void digests() {
        promise = 39;
        is("new", new BoardRemembers().digest(), digestByCalls(new BoardRemembers()));
        BoardRemembers one = oneThatComesUp();
        is("one", one.digest(), digestByCalls(one));
        BoardRemembers x = board("095307284090", "0000a9;0101b5;0100c4;0300d7;0235e2;0111f8");
        x.clean(2, 0);
        x.clean(4, 1);
        x.grease(9, 1);
        x.seen(5, 0, 0);
        x.lose(0);
        is("many", x.digest(), digestByCalls(x));
        is("it changes nothing", x.digest(), digestByCalls(x));
        typed(x, 0, "?");
        is("with a fault", x.digest(), digestByCalls(x));
        // Boards on which the days, cells and chances that go in differ from those beside them.
        BoardRemembers lastDay = board("00000000000000000091", "0000a9;1900b9;1911c8");
        lastDay.clean(18, 1);
        is("day 19", lastDay.digest(), digestByCalls(lastDay));
        BoardRemembers asks = board("0", "0300a9;0511b9;0801c8;1010d7;1212e6");
        is("ask", asks.digest(), digestByCalls(asks));
        BoardRemembers chance = board("05555555541", "0000a9;0101b5");
        chance.clean(1, 0);
        is("dryness", chance.digest(), digestByCalls(chance));
    }

    private static long digestByCalls(BoardRemembers x) {
        long h = 17;
        for (int what = 0; what < 8; what++) {
            h = 31 * h + x.count(what);
        }
        h = 31 * (31 * h + x.fault(0)) + x.fault(1);
        for (int day : new int[] {0, 4, 9, 19}) {
            h = 31 * (31 * (31 * h + x.damp(day)) + x.through(day)) + x.deep(day);
            for (int cell = 0; cell < 36; cell++) {
                h = 31 * h + x.stands(day, cell);
            }
        }
        for (int k = 0; k < x.count(1); k++) {
            int[] all = {x.stroke(k, 0), x.stroke(k, 1), x.stroke(k, 2), x.stroke(k, 3), x.state(9, k, 0),
                x.state(9, k, 1), x.state(19, k, 0), x.state(19, k, 1), x.up(k), x.when(k, 0), x.when(k, 1),
                x.place(k, 0), x.place(k, 1), x.sign(k), x.chalk(k)};
            for (int v : all) {
                h = 31 * h + v;
            }
        }
        long[] rest = {x.misread(0), x.misread(1), x.most(), x.oil(0), x.oil(1), x.dry(0), x.dry(1), x.never(),
            x.ask(0), x.ask(7), x.dryness(5, 7, 9, 0), x.dryness(5, 7, 9, 1), x.weather(7, 15, 0),
            x.weather(7, 15, 1)};
        for (long v : rest) {
            h = 31 * h + v;
        }
        return h;
    }

    private static void refusalsChangeNothing() {
        promise = 0;
        BoardRemembers x = oneThatComesUp();
        x.sheet(0, 0, 3);
        long before = x.digest();
        for (int far : new int[] {-1, 61, Integer.MIN_VALUE, Integer.MAX_VALUE}) {
            x.type(far, 48);
            x.wipe(far);
            x.undo(far);
            x.fine(far);
            x.clean(far, 0);
            x.clean(0, far);
            x.grease(far, 0);
            x.grease(0, far);
            x.back(far);
            x.read(far);
            x.seen(far, 0, 0);
            x.seen(0, far, 0);
            x.seen(0, 0, far);
            x.sheet(0, far, 2);
            x.sheet(0, 0, far);
            x.lose(far);
            x.put(0, 0, far, 9);
            x.copy(0, far, 0, 0, 1);
            x.write(far, 0);
        }
        is("digest behind refusals", x.digest(), before);
        is("the sheet behind refusals", x.lose(0), 3);
    }
}
