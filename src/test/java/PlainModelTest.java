import java.math.BigInteger;
import java.util.ArrayList;
import java.util.Arrays;
import java.util.List;
import java.util.regex.Matcher;
import java.util.regex.Pattern;

/**
 * Long runs of calls on BoardRemembers beside a model that follows the document word by word, day
 * by day, with every plan tried out in full. Every answer has to be the same.
 */
public final class PlainModelTest {
    private static final int NONE = -1, BAD = -2, NOT = -3, FULL = -4;
    private static int wrong = 0;
    private static long calls = 0;

    public static void main(String[] args) {
        Lots lots = new Lots(20261118L);
        for (int run = 0; run < 700 && wrong < 20; run++) {
            new Run(run, lots).go();
        }
        System.out.println(calls + " calls beside the plain model, " + wrong + " answers differ");
        if (wrong != 0) {
            System.exit(1);
        }
    }

    /** Numbers that are the same on every machine and every day. */
    private static final class Lots {
        private long seed;

        Lots(long seed) {
            this.seed = seed;
        }

        int below(int m) {
            seed = seed * 6364136223846793005L + 1442695040888963407L;
            return (int) Math.floorMod(seed >>> 33, (long) m);
        }

        /** Mostly from least to greatest, now and then beside them. */
        int near(int least, int greatest) {
            int dice = below(40);
            if (dice == 0) {
                return least - 1;
            }
            if (dice == 1) {
                return greatest + 1;
            }
            if (dice == 2) {
                int[] far = {Integer.MIN_VALUE, Integer.MAX_VALUE, -1, -60, 1000, -2147483600};
                return far[below(far.length)];
            }
            return least + below(greatest - least + 1);
        }
    }

    private static final class Run {
        final int number;
        final Lots lots;
        final BoardRemembers real = new BoardRemembers();
        final Plain plain = new Plain();
        final StringBuilder told = new StringBuilder();
        int used = 0;

        Run(int number, Lots lots) {
            this.number = number;
            this.lots = lots;
        }

        void due(String call, long got, long want) {
            calls++;
            used++;
            told.append(' ').append(call);
            if (got != want) {
                wrong++;
                System.out.println("run " + number + ": " + call + " answered " + got + ", due is "
                        + want + " behind" + told);
            }
        }

        void go() {
            typeDamps();
            typeStrokes();
            int style = lots.below(4);
            for (int i = lots.below(9); i > 0; i--) {
                clean(style == 0 ? lots.near(0, 19) : lots.near(0, 6), lots.near(0, style == 1 ? 1 : 5));
            }
            while (used < 500 && wrong < 20) {
                step();
            }
            due("digest()", real.digest(), plain.digest());
        }

        void type(int text, int b) {
            due("type(" + text + ", " + b + ")", real.type(text, b), plain.type(text, b));
        }

        void clean(int day, int line) {
            due("clean(" + day + ", " + line + ")", real.clean(day, line), plain.clean(day, line));
        }

        void typeDamps() {
            int kind = lots.below(3);
            for (int i = lots.below(22); i > 0; i--) {
                type(0, '0' + (kind == 0 ? lots.below(10) : kind == 1 ? 4 + lots.below(6) : lots.below(4) * 3));
            }
            if (lots.below(20) == 0) {
                type(0, lots.near(0, 255));
            }
        }

        void typeStrokes() {
            int kind = lots.below(5);
            int n = lots.below(9);
            for (int i = 0; i < n; i++) {
                if (i > 0) {
                    type(1, ';');
                }
                int day = kind == 3 ? lots.below(20) : kind == 4 ? lots.below(3) : lots.below(6);
                type(1, '0' + day / 10);
                type(1, '0' + day % 10);
                type(1, '0' + (kind == 0 ? lots.below(6) : kind == 1 ? lots.below(2) : 1));
                type(1, '0' + (kind == 0 ? lots.below(6) : kind == 1 ? lots.below(2) : lots.below(2)));
                type(1, 'a' + (kind == 2 ? lots.below(2) : lots.below(6)));
                type(1, '1' + lots.below(9));
            }
            if (lots.below(20) == 0) {
                type(1, lots.near(0, 255));
            }
        }

        void step() {
            int act = lots.below(100);
            if (act < 4) {
                int text = lots.near(0, 1);
                due("undo(" + text + ")", real.undo(text), plain.undo(text));
            } else if (act < 10) {
                int text = lots.near(0, 1);
                String likely = text == 0 ? "0123456789" : "0123459abcdef;;;";
                type(text, lots.below(4) == 0 ? lots.near(0, 255) : likely.charAt(lots.below(likely.length())));
            } else if (act == 10) {
                int text = lots.near(0, 1);
                due("wipe(" + text + ")", real.wipe(text), plain.wipe(text));
                look();
                if (text == 0) {
                    typeDamps();
                } else if (text == 1) {
                    typeStrokes();
                }
            } else if (act < 20) {
                change(act);
            } else if (act < 60) {
                look();
            } else if (act < 76) {
                plan();
            } else {
                sheets();
            }
        }

        void change(int act) {
            int day = lots.near(0, 19), line = lots.near(0, 5), what = lots.near(0, 1), v = lots.near(0, 9);
            if (act < 13) {
                clean(day, line);
            } else if (act == 13) {
                due("grease(" + day + ", " + line + ")", real.grease(day, line), plain.grease(day, line));
            } else if (act < 16) {
                due("back(" + what + ")", real.back(what), plain.back(what));
            } else if (act == 16) {
                due("fine(" + v + ")", real.fine(v), plain.fine(v));
            } else if (act < 19) {
                int cell = somewhere(), sign = lots.near(0, 6);
                int saw = plain.stands(day, cell);
                // What is really there, more often than not: else nothing ever fits all that is seen.
                sign = lots.below(4) == 0 ? sign : saw >= 6 ? saw - 6 : 6;
                due("seen(" + day + ", " + cell + ", " + sign + ")", real.seen(day, cell, sign),
                        plain.seen(day, cell, sign));
            } else {
                due("forget()", real.forget(), plain.forget());
            }
        }

        /** A cell, more often than not one that a stroke is on. */
        int somewhere() {
            int n = plain.strokes().size();
            return n == 0 || lots.below(3) == 0 ? lots.near(0, 35) : plain.strokes().get(lots.below(n)).cell;
        }

        void look() {
            int day = lots.near(0, 19), cell = somewhere(), k = lots.near(0, 7), what = lots.near(0, 1);
            switch (lots.below(11)) {
                case 0: due("fault(" + what + ")", real.fault(what), plain.fault(what)); break;
                case 1: due("damp(" + day + ")", real.damp(day), plain.damp(day)); break;
                case 2: {
                    int w = lots.near(0, 3);
                    due("stroke(" + k + ", " + w + ")", real.stroke(k, w), plain.stroke(k, w));
                    break;
                }
                case 3: due("stands(" + day + ", " + cell + ")", real.stands(day, cell), plain.stands(day, cell)); break;
                case 4: due("state(" + day + ", " + k + ", " + what + ")", real.state(day, k, what), plain.state(day, k, what)); break;
                case 5: due("up(" + k + ")", real.up(k), plain.up(k)); break;
                case 6: due("through(" + day + ")", real.through(day), plain.through(day)); break;
                case 7: due("misread(" + what + ")", real.misread(what), plain.misread(what)); break;
                case 8: due("most()", real.most(), plain.most()); break;
                case 9: due("deep(" + day + ")", real.deep(day), plain.deep(day)); break;
                default: {
                    int w = lots.near(0, 8);
                    due("count(" + w + ")", real.count(w), plain.count(w));
                }
            }
        }

        void plan() {
            int k = lots.near(0, 7), what = lots.near(0, 1), cell = somewhere();
            switch (lots.below(10)) {
                case 0: due("oil(" + what + ")", real.oil(what), plain.oil(what)); break;
                case 1: due("when(" + k + ", " + what + ")", real.when(k, what), plain.when(k, what)); break;
                case 2: due("place(" + k + ", " + what + ")", real.place(k, what), plain.place(k, what)); break;
                case 3: due("dry(" + what + ")", real.dry(what), plain.dry(what)); break;
                case 4: due("never()", real.never(), plain.never()); break;
                case 5: due("sign(" + k + ")", real.sign(k), plain.sign(k)); break;
                case 6: due("chalk(" + k + ")", real.chalk(k), plain.chalk(k)); break;
                case 7: due("ask(" + cell + ")", real.ask(cell), plain.ask(cell)); break;
                case 8: {
                    int c = lots.near(0, 16), last = lots.below(4) == 0 ? lots.near(0, 9) : lots.near(0, 5), day = lots.near(0, 19);
                    due("dryness(" + c + ", " + last + ", " + day + ", " + what + ")",
                            real.dryness(c, last, day, what), plain.dryness(c, last, day, what));
                    break;
                }
                default: {
                    int seed = lots.below(3) == 0 ? lots.near(-5, 5) : lots.below(Integer.MAX_VALUE) * 2 + 1, n = lots.near(1, 20);
                    due("weather(" + seed + ", " + n + ", " + what + ")", real.weather(seed, n, what), plain.weather(seed, n, what));
                }
            }
        }

        void sheets() {
            int s = lots.near(0, 3), t = lots.near(0, 3), form = lots.near(0, 2), i = lots.near(0, 9), j = lots.near(0, 9);
            switch (lots.below(9)) {
                case 0: {
                    int n = lots.below(3) == 0 ? lots.near(0, 60) : lots.near(0, 12);
                    due("sheet(" + s + ", " + form + ", " + n + ")", real.sheet(s, form, n), plain.sheet(s, form, n));
                    break;
                }
                case 1: {
                    if (lots.below(5) == 0) {
                        due("lose(" + s + ")", real.lose(s), plain.lose(s));
                    }
                    break;
                }
                case 2:
                case 3: {
                    form = lots.below(3) == 0 ? form : plain.formOf(s, form);
                    int v = lots.below(5) == 0 ? lots.near(-70000, 70000) : lots.near(0, 5);
                    due("put(" + s + ", " + form + ", " + i + ", " + v + ")", real.put(s, form, i, v), plain.put(s, form, i, v));
                    break;
                }
                case 4:
                case 5: {
                    form = lots.below(3) == 0 ? form : plain.formOf(s, form);
                    due("get(" + s + ", " + form + ", " + i + ")", real.get(s, form, i), plain.get(s, form, i));
                    break;
                }
                case 6: {
                    int n = lots.near(0, 6);
                    t = lots.below(3) == 0 ? s : t;
                    due("copy(" + s + ", " + i + ", " + t + ", " + j + ", " + n + ")", real.copy(s, i, t, j, n), plain.copy(s, i, t, j, n));
                    break;
                }
                case 7: {
                    int day = lots.near(0, 19);
                    due("write(" + day + ", " + s + ")", real.write(day, s), plain.write(day, s));
                    break;
                }
                default: due("read(" + s + ")", real.read(s), plain.read(s));
            }
        }
    }

    private record Stroke(int day, int cell, int sign, int chalk) {
    }

    /** One run of all days. A stroke that never was is null. */
    private static final class Days {
        final int[][] stands = new int[20][36];
        final int[][] state = new int[20][8];
        final int[][] strong = new int[20][8];

        Days(List<Stroke> strokes, int[] damps, int fine, List<int[]> wipes, List<int[]> oils) {
            int[] written = new int[36];
            Arrays.fill(written, -1);
            boolean[] in = new boolean[8];
            int[] strength = new int[8];
            for (int day = 0; day < 20; day++) {
                for (int[] wipe : wipes) {
                    for (int place = 0; place < 6 && wipe[0] == day; place++) {
                        goIn(6 * wipe[1] + place, written, in, strength, strokes);
                    }
                }
                for (int k = 0; k < strokes.size(); k++) {
                    if (strokes.get(k) != null && strokes.get(k).day == day) {
                        goIn(strokes.get(k).cell, written, in, strength, strokes);
                        written[strokes.get(k).cell] = k;
                    }
                }
                boolean[] up = new boolean[8];
                for (int cell = 0; cell < 36; cell++) {
                    boolean oiled = false;
                    for (int[] oil : oils) {
                        oiled |= oil[0] <= day && oil[1] == cell / 6;
                    }
                    stands[day][cell] = written[cell] < 0 ? NONE : strokes.get(written[cell]).sign;
                    if (written[cell] >= 0 || oiled) {
                        continue;
                    }
                    int best = -1;
                    for (int k = 0; k < strokes.size(); k++) {
                        if (in[k] && strokes.get(k).cell == cell && (best < 0 || strength[k] >= strength[best])) {
                            best = k;
                        }
                    }
                    if (best >= 0 && strength[best] + damps[day] >= 10) {
                        up[best] = true;
                        stands[day][cell] = 6 + strokes.get(best).sign;
                    }
                }
                for (int k = 0; k < strokes.size(); k++) {
                    if (up[k]) {
                        strength[k] = Math.min(9, strength[k] + 1);
                    } else if (in[k] && damps[day] < fine) {
                        strength[k] = Math.max(0, strength[k] - 1);
                    }
                    boolean stillThere = false;
                    for (int cell = 0; cell < 36; cell++) {
                        stillThere |= written[cell] == k;
                    }
                    state[day][k] = up[k] ? 3 : in[k] ? 2 : stillThere ? 1 : 0;
                    strong[day][k] = in[k] ? strength[k] : NONE;
                }
            }
        }

        private static void goIn(int cell, int[] written, boolean[] in, int[] strength, List<Stroke> strokes) {
            if (written[cell] >= 0) {
                in[written[cell]] = true;
                strength[written[cell]] = strokes.get(written[cell]).chalk;
                written[cell] = -1;
            }
        }

        int through(int day) {
            int n = 0;
            for (int k = 0; k < 8; k++) {
                n += state[day][k] == 3 ? 1 : 0;
            }
            return n;
        }

        int all() {
            int n = 0;
            for (int day = 0; day < 20; day++) {
                n += through(day);
            }
            return n;
        }
    }

    private static final class Plain {
        static final String ONE = "[01][0-9][0-5][0-5][a-f][1-9]";
        static final Pattern DAMPS = Pattern.compile("[0-9]{0,20}");
        static final Pattern STROKES = Pattern.compile("(" + ONE + "(;" + ONE + "){0,7})?");
        final StringBuilder[] texts = {new StringBuilder(), new StringBuilder()};
        final List<int[]> wipes = new ArrayList<>(), oils = new ArrayList<>(), seen = new ArrayList<>();
        final Object[] sheets = new Object[4];
        int fine = 3;
        int finding = 0;

        static boolean in(int v, int least, int greatest) {
            return v >= least && v <= greatest;
        }

        int type(int text, int b) {
            if (!in(text, 0, 1) || !in(b, 0, 255)) {
                return BAD;
            }
            if (texts[text].length() == (text == 0 ? 20 : 55)) {
                return FULL;
            }
            return texts[text].append((char) b).length();
        }

        int wipe(int text) {
            if (!in(text, 0, 1)) {
                return BAD;
            }
            int n = texts[text].length();
            texts[text].setLength(0);
            return n;
        }

        int undo(int text) {
            if (!in(text, 0, 1)) {
                return BAD;
            }
            if (texts[text].length() == 0) {
                return NOT;
            }
            texts[text].setLength(texts[text].length() - 1);
            return texts[text].length();
        }

        int fault(int text) {
            if (!in(text, 0, 1)) {
                return BAD;
            }
            Pattern well = text == 0 ? DAMPS : STROKES;
            String all = texts[text].toString();
            for (int i = 0; i < all.length(); i++) {
                Matcher m = well.matcher(all.substring(0, i + 1));
                if (!m.matches() && !m.hitEnd()) {
                    return i;
                }
            }
            return well.matcher(all).matches() ? NONE : all.length();
        }

        int[] damps() {
            int[] row = new int[20];
            for (int i = 0; i < texts[0].length() && fault(0) == NONE; i++) {
                row[i] = texts[0].charAt(i) - '0';
            }
            return row;
        }

        List<Stroke> strokes() {
            List<Stroke> all = new ArrayList<>();
            if (fault(1) != NONE || texts[1].length() == 0) {
                return all;
            }
            for (String one : texts[1].toString().split(";")) {
                all.add(new Stroke(Integer.parseInt(one.substring(0, 2)),
                        Integer.parseInt(one.substring(2, 4), 6), one.charAt(4) - 'a', one.charAt(5) - '0'));
            }
            return all;
        }

        Days days(List<Stroke> strokes, int[] damps) {
            return new Days(strokes, damps, fine, wipes, oils);
        }

        Days days() {
            return days(strokes(), damps());
        }

        int damp(int day) {
            return in(day, 0, 19) ? damps()[day] : BAD;
        }

        boolean isStroke(int k) {
            return in(k, 0, strokes().size() - 1);
        }

        int stroke(int k, int what) {
            if (!isStroke(k) || !in(what, 0, 3)) {
                return BAD;
            }
            Stroke s = strokes().get(k);
            return new int[] {s.day, s.cell, s.sign, s.chalk}[what];
        }

        int fine(int v) {
            if (!in(v, 0, 9)) {
                return BAD;
            }
            int was = fine;
            fine = v;
            return was;
        }

        int clean(int day, int line) {
            return more(wipes, 8, day, line);
        }

        int grease(int day, int line) {
            return more(oils, 4, day, line);
        }

        int more(List<int[]> list, int most, int day, int line) {
            if (!in(day, 0, 19) || !in(line, 0, 5)) {
                return BAD;
            }
            if (list.size() == most) {
                return FULL;
            }
            list.add(new int[] {day, line});
            return list.size();
        }

        int back(int what) {
            if (!in(what, 0, 1)) {
                return BAD;
            }
            List<int[]> list = what == 0 ? wipes : oils;
            if (list.isEmpty()) {
                return NOT;
            }
            list.remove(list.size() - 1);
            return list.size();
        }

        int read(int s) {
            if (!in(s, 0, 3)) {
                return BAD;
            }
            if (sheets[s] == null) {
                return find(1);
            }
            int n = 0;
            while (2 * n + 1 < java.lang.reflect.Array.getLength(sheets[s])
                    && clean(java.lang.reflect.Array.getInt(sheets[s], 2 * n),
                            java.lang.reflect.Array.getInt(sheets[s], 2 * n + 1)) >= 0) {
                n++;
            }
            return n;
        }

        int stands(int day, int cell) {
            return in(day, 0, 19) && in(cell, 0, 35) ? days().stands[day][cell] : BAD;
        }

        int state(int day, int k, int what) {
            if (!in(day, 0, 19) || !isStroke(k) || !in(what, 0, 1)) {
                return BAD;
            }
            return what == 0 ? days().state[day][k] : days().strong[day][k];
        }

        int up(int k) {
            if (!isStroke(k)) {
                return BAD;
            }
            int n = 0;
            for (int[] states : days().state) {
                n += states[k] == 3 ? 1 : 0;
            }
            return n;
        }

        int through(int day) {
            return in(day, 0, 19) ? days().through(day) : BAD;
        }

        int misread(int what) {
            if (!in(what, 0, 1)) {
                return BAD;
            }
            Days d = days();
            for (int day = 0; day < 20; day++) {
                for (int line = 0; line < 6; line++) {
                    boolean rises = false, stands = false;
                    for (int place = 0; place < 6; place++) {
                        int v = d.stands[day][6 * line + place];
                        rises |= v >= 6;
                        stands |= in(v, 0, 5);
                    }
                    if (rises && stands) {
                        return what == 0 ? day : line;
                    }
                }
            }
            return NONE;
        }

        int most() {
            int best = NONE;
            for (int k = strokes().size() - 1; k >= 0; k--) {
                if (best == NONE || up(k) >= up(best)) {
                    best = k;
                }
            }
            return best;
        }

        int deep(int day) {
            if (!in(day, 0, 19)) {
                return BAD;
            }
            int[] many = new int[36];
            for (int k = 0; k < strokes().size(); k++) {
                many[strokes().get(k).cell] += days().state[day][k] >= 2 ? 1 : 0;
            }
            int best = 0;
            for (int cell = 0; cell < 36; cell++) {
                best = many[cell] > many[best] ? cell : best;
            }
            return many[best] == 0 ? NONE : best;
        }

        int oil(int what) {
            if (!in(what, 0, 1)) {
                return BAD;
            }
            for (int n = 0; n <= 3; n++) {
                for (int bits = 0; bits < 64; bits++) {
                    if (Integer.bitCount(bits) == n) {
                        List<int[]> more = new ArrayList<>(oils);
                        for (int line = 0; line < 6; line++) {
                            if ((bits >> line & 1) == 1) {
                                more.add(new int[] {0, line});
                            }
                        }
                        if (new Days(strokes(), damps(), fine, wipes, more).all() == 0) {
                            return what == 0 ? n : bits;
                        }
                    }
                }
            }
            return NONE;
        }

        int when(int k, int what) {
            if (!isStroke(k) || !in(what, 0, 1)) {
                return BAD;
            }
            int[] many = new int[20];
            for (int day = 0; day < 20; day++) {
                List<Stroke> other = strokes();
                Stroke s = other.get(k);
                other.set(k, new Stroke(day, s.cell, s.sign, s.chalk));
                many[day] = days(other, damps()).all();
            }
            return least(many, what);
        }

        int place(int k, int what) {
            if (!isStroke(k) || !in(what, 0, 1)) {
                return BAD;
            }
            int[] many = new int[36];
            for (int cell = 0; cell < 36; cell++) {
                List<Stroke> other = strokes();
                Stroke s = other.get(k);
                other.set(k, new Stroke(s.day, cell, s.sign, s.chalk));
                many[cell] = days(other, damps()).all();
            }
            return least(many, what);
        }

        int dry(int what) {
            if (!in(what, 0, 1)) {
                return BAD;
            }
            int[] many = new int[20];
            for (int day = 0; day < 20; day++) {
                int[] other = damps();
                other[day] = 0;
                many[day] = days(strokes(), other).all();
            }
            return least(many, what);
        }

        static int least(int[] many, int what) {
            int best = 0;
            for (int i = 1; i < many.length; i++) {
                best = many[i] < many[best] ? i : best;
            }
            return what == 0 ? best : many[best];
        }

        int seen(int day, int cell, int sign) {
            if (!in(day, 0, 19) || !in(cell, 0, 35) || !in(sign, 0, 6)) {
                return BAD;
            }
            if (seen.size() == 8) {
                return FULL;
            }
            seen.add(new int[] {day, cell, sign});
            return seen.size();
        }

        int forget() {
            int n = seen.size();
            seen.clear();
            return n;
        }

        boolean comesOut(List<Stroke> strokes) {
            Days d = days(strokes, damps());
            for (int[] one : seen) {
                int v = d.stands[one[0]][one[1]];
                if ((v >= 6 ? v - 6 : 6) != one[2]) {
                    return false;
                }
            }
            return true;
        }

        List<Stroke> without(int k) {
            List<Stroke> other = strokes();
            other.set(k, null);
            return other;
        }

        int never() {
            int bits = 0;
            for (int k = 0; k < strokes().size(); k++) {
                bits |= comesOut(without(k)) ? 1 << k : 0;
            }
            return bits;
        }

        int sign(int k) {
            if (!isStroke(k)) {
                return BAD;
            }
            int bits = 0;
            for (int v = 0; v < 6; v++) {
                List<Stroke> other = strokes();
                Stroke s = other.get(k);
                other.set(k, new Stroke(s.day, s.cell, v, s.chalk));
                bits |= comesOut(other) ? 1 << v : 0;
            }
            return bits;
        }

        int chalk(int k) {
            if (!isStroke(k)) {
                return BAD;
            }
            int bits = 0;
            for (int v = 1; v < 10; v++) {
                List<Stroke> other = strokes();
                Stroke s = other.get(k);
                other.set(k, new Stroke(s.day, s.cell, s.sign, v));
                bits |= comesOut(other) ? 1 << v : 0;
            }
            return bits;
        }

        int ask(int cell) {
            if (!in(cell, 0, 35)) {
                return BAD;
            }
            int[] greatest = new int[20];
            int[][] many = new int[20][13];
            for (int k = 0; k < strokes().size(); k++) {
                if ((never() >> k & 1) == 1) {
                    Days d = days(without(k), damps());
                    for (int day = 0; day < 20; day++) {
                        int n = ++many[day][1 + d.stands[day][cell]];
                        greatest[day] = Math.max(greatest[day], n);
                    }
                }
            }
            return least(greatest, 0);
        }

        long dryness(int c, int last, int day, int what) {
            if (!in(c, 0, 16) || !in(last, 0, 9) || !in(day, 0, 19) || !in(what, 0, 1)) {
                return Long.MIN_VALUE + 2;
            }
            BigInteger above = BigInteger.ZERO;
            BigInteger below = BigInteger.valueOf(16).pow(last + 1);
            List<Stroke> strokes = strokes();
            int[] damps = damps();
            for (int mask = 0; mask < 1 << last + 1; mask++) {
                int[] other = damps.clone();
                for (int i = 0; i <= last; i++) {
                    other[i] = (mask >> i & 1) == 1 ? 0 : other[i];
                }
                if (days(strokes, other).through(day) == 0) {
                    int dry = Integer.bitCount(mask);
                    above = above.add(BigInteger.valueOf(c).pow(dry)
                            .multiply(BigInteger.valueOf(16 - c).pow(last + 1 - dry)));
                }
            }
            BigInteger common = above.gcd(below);
            return (what == 0 ? above : below).divide(common).longValueExact();
        }

        int weather(int seed, int n, int what) {
            if (!in(n, 1, 20) || !in(what, 0, 1)) {
                return BAD;
            }
            int[] other = new int[20];
            int now = seed;
            for (int i = 0; i < n; i++) {
                now = (int) (1103515245L * now + 12345L);
                other[i] = (int) ((now & 0xffffffffL) / 65536 % 10);
            }
            Days d = days(strokes(), other);
            int some = 0;
            for (int day = 0; day < 20; day++) {
                some += d.through(day) > 0 ? 1 : 0;
            }
            return what == 0 ? d.all() : some;
        }

        int find(int number) {
            finding = number;
            return -10 - number;
        }

        /** The findings are named for what the machine itself throws, so here it is let throw. */
        int find(RuntimeException e) {
            if (e instanceof NullPointerException) {
                return find(1);
            }
            if (e instanceof IndexOutOfBoundsException) {
                return find(2);
            }
            if (e instanceof ClassCastException) {
                return find(3);
            }
            if (e instanceof ArrayStoreException) {
                return find(4);
            }
            if (e instanceof NegativeArraySizeException) {
                return find(5);
            }
            throw e;
        }

        int formOf(int s, int other) {
            if (!in(s, 0, 3) || sheets[s] == null) {
                return other;
            }
            return sheets[s] instanceof byte[] ? 0 : sheets[s] instanceof short[] ? 1 : 2;
        }

        int sheet(int s, int form, int n) {
            if (!in(s, 0, 3) || !in(form, 0, 2) || n > 60) {
                return BAD;
            }
            try {
                sheets[s] = form == 0 ? new byte[n] : form == 1 ? new short[n] : (Object) new int[n];
                return n;
            } catch (RuntimeException e) {
                return find(e);
            }
        }

        int lose(int s) {
            if (!in(s, 0, 3)) {
                return BAD;
            }
            if (sheets[s] == null) {
                return find(1);
            }
            int n = java.lang.reflect.Array.getLength(sheets[s]);
            sheets[s] = null;
            return n;
        }

        int put(int s, int form, int i, int v) {
            if (!in(s, 0, 3) || !in(form, 0, 2)) {
                return BAD;
            }
            try {
                if (form == 0) {
                    ((byte[]) sheets[s])[i] = (byte) v;
                } else if (form == 1) {
                    ((short[]) sheets[s])[i] = (short) v;
                } else {
                    ((int[]) sheets[s])[i] = v;
                }
                return 1;
            } catch (RuntimeException e) {
                return find(e);
            }
        }

        int get(int s, int form, int i) {
            if (!in(s, 0, 3) || !in(form, 0, 2)) {
                return Integer.MIN_VALUE;
            }
            try {
                return form == 0 ? ((byte[]) sheets[s])[i] : form == 1 ? ((short[]) sheets[s])[i] : ((int[]) sheets[s])[i];
            } catch (RuntimeException e) {
                find(e);
                return Integer.MIN_VALUE;
            }
        }

        int copy(int s, int i, int t, int j, int n) {
            if (!in(s, 0, 3) || !in(t, 0, 3)) {
                return BAD;
            }
            try {
                System.arraycopy(sheets[s], i, sheets[t], j, n);
                return 1;
            } catch (RuntimeException e) {
                return find(e);
            }
        }

        int write(int day, int s) {
            if (!in(day, 0, 19) || !in(s, 0, 3)) {
                return BAD;
            }
            if (sheets[s] == null) {
                return find(1);
            }
            int n = Math.min(36, java.lang.reflect.Array.getLength(sheets[s]));
            for (int cell = 0; cell < n; cell++) {
                put(s, formOf(s, 0), cell, stands(day, cell));
            }
            return n;
        }

        int count(int what) {
            switch (what) {
                case 0: return fault(0) == NONE ? texts[0].length() : 0;
                case 1: return strokes().size();
                case 2:
                case 3: return texts[what - 2].length();
                case 4: return wipes.size();
                case 5: return oils.size();
                case 6: return days().all();
                case 7: return seen.size();
                case 8: return finding;
                default: return BAD;
            }
        }

        long digest() {
            List<Long> all = new ArrayList<>();
            for (int what = 0; what < 8; what++) {
                all.add((long) count(what));
            }
            all.add((long) fault(0));
            all.add((long) fault(1));
            for (int day : new int[] {0, 4, 9, 19}) {
                all.add((long) damp(day));
                all.add((long) through(day));
                all.add((long) deep(day));
                for (int cell = 0; cell < 36; cell++) {
                    all.add((long) stands(day, cell));
                }
            }
            for (int k = 0; k < strokes().size(); k++) {
                for (int v : new int[] {stroke(k, 0), stroke(k, 1), stroke(k, 2), stroke(k, 3),
                    state(9, k, 0), state(9, k, 1), state(19, k, 0), state(19, k, 1), up(k),
                    when(k, 0), when(k, 1), place(k, 0), place(k, 1), sign(k), chalk(k)}) {
                    all.add((long) v);
                }
            }
            for (int v : new int[] {misread(0), misread(1), most(), oil(0), oil(1), dry(0), dry(1),
                never(), ask(0), ask(7)}) {
                all.add((long) v);
            }
            all.add(dryness(5, 7, 9, 0));
            all.add(dryness(5, 7, 9, 1));
            all.add((long) weather(7, 15, 0));
            all.add((long) weather(7, 15, 1));
            long h = 17;
            for (long v : all) {
                h = 31 * h + v;
            }
            return h;
        }
    }
}
