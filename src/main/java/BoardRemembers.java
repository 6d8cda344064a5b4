/**
 * A school blackboard that keeps what is wiped off it and shows it again on damp days.
 *
 * What is written, and when it goes in, hangs on strokes, wipes and oils alone; the weather only
 * moves the strengths of what has gone in. So a Board settles the first for all days at once, and
 * a Course follows the second through one weather. Strokes of different cells never touch one
 * another, which is why a changed stroke needs only the cell that it leaves and the cell that it
 * comes to reckoned anew.
 */
public final class BoardRemembers {
    public static final int NONE = -1, BAD = -2, NOT = -3, FULL = -4;

    private static final int DAYS = 20, LINES = 6, CELLS = 36, SIGNS = 6;
    private static final int STROKES = 8, WIPES = 8, OILS = 4, SIGHTS = 8, SHEETS = 4, ITEMS = 60;
    private static final int DAMP_ROOM = 20, STROKE_ROOM = 55, STROKE_STEP = 7;
    private static final int STRONGEST = 9, SHOWS = 10, MOST_OILED = 3, LAST_BY_CHANCE = 9;
    private static final int NO_SUCH_SHEET = 1, NO_SUCH_ITEM = 2, OTHER_FORM = 3, UNLIKE_FORMS = 4,
            SIZE_BELOW_0 = 5;

    private final Text dampText = new Text(DAMP_ROOM);
    private final Text strokeText = new Text(STROKE_ROOM);
    private final int[] damps = new int[DAYS];
    private final int[] otherDamps = new int[DAYS];
    private final Care care = new Care();
    private final Board told = new Board();
    private final Course toldCourse = new Course();
    private final Board trial = new Board();
    private final Course trialCourse = new Course();
    private final Sights sights = new Sights();
    private final Fewest fewest = new Fewest();
    private final Chance chance = new Chance();
    private final Sheet[] sheets = new Sheet[SHEETS];
    private final int[] views = new int[STROKES * DAYS];
    private int dampCount = 0;
    private int fineBelow = 3;
    private int latestFinding = 0;
    private boolean stale = true;

    public BoardRemembers() {
        for (int s = 0; s < SHEETS; s++) {
            sheets[s] = new Sheet();
        }
    }

    // ---- damps, strokes, wipes, oils

    public int type(int text, int b) {
        if (!isText(text) || b < 0 || b > 255) {
            return BAD;
        }
        Text t = textOf(text);
        if (!t.add(b)) {
            return FULL;
        }
        stale = true;
        return t.length;
    }

    public int wipe(int text) {
        if (!isText(text)) {
            return BAD;
        }
        Text t = textOf(text);
        int had = t.length;
        t.length = 0;
        stale = true;
        return had;
    }

    public int undo(int text) {
        if (!isText(text)) {
            return BAD;
        }
        Text t = textOf(text);
        if (t.length == 0) {
            return NOT;
        }
        t.length--;
        stale = true;
        return t.length;
    }

    public int fault(int text) {
        if (!isText(text)) {
            return BAD;
        }
        return text == 0 ? faultOfDamps() : faultOfStrokes();
    }

    public int damp(int day) {
        if (!isDay(day)) {
            return BAD;
        }
        bringUpToDate();
        return damps[day];
    }

    public int stroke(int stroke, int what) {
        bringUpToDate();
        if (!isStroke(stroke) || what < 0 || what > 3) {
            return BAD;
        }
        switch (what) {
            case 0: return told.days[stroke];
            case 1: return told.cells[stroke];
            case 2: return told.signs[stroke];
            default: return told.chalks[stroke];
        }
    }

    public int fine(int v) {
        if (v < 0 || v > 9) {
            return BAD;
        }
        int was = fineBelow;
        fineBelow = v;
        stale = true;
        return was;
    }

    public int clean(int day, int line) {
        if (!isDay(day) || !isLine(line)) {
            return BAD;
        }
        if (!care.addWipe(day, line)) {
            return FULL;
        }
        stale = true;
        return care.wipes;
    }

    public int grease(int day, int line) {
        if (!isDay(day) || !isLine(line)) {
            return BAD;
        }
        if (!care.addOil(day, line)) {
            return FULL;
        }
        stale = true;
        return care.oils;
    }

    public int back(int what) {
        if (!isEither(what)) {
            return BAD;
        }
        int left = (what == 0 ? care.wipes : care.oils) - 1;
        if (left < 0) {
            return NOT;
        }
        if (what == 0) {
            care.wipes = left;
        } else {
            care.oils = left;
        }
        stale = true;
        return left;
    }

    public int read(int s) {
        if (!isSheet(s)) {
            return BAD;
        }
        Sheet from = sheets[s];
        if (from.lost) {
            return found(NO_SUCH_SHEET);
        }
        int taken = 0;
        for (int i = 0; i + 1 < from.length; i += 2) {
            if (clean(from.items[i], from.items[i + 1]) < 0) {
                break;
            }
            taken++;
        }
        return taken;
    }

    // ---- days

    public int stands(int day, int cell) {
        if (!isDay(day) || !isCell(cell)) {
            return BAD;
        }
        bringUpToDate();
        return told.shownOn(day, cell, toldCourse.risen[day]);
    }

    public int state(int day, int stroke, int what) {
        bringUpToDate();
        if (!isDay(day) || !isStroke(stroke) || !isEither(what)) {
            return BAD;
        }
        boolean inside = has(told.inside[day], stroke);
        if (what == 1) {
            return inside ? strengthIn(toldCourse.strengths[day], stroke) : NONE;
        }
        if (inside) {
            return has(toldCourse.risen[day], stroke) ? 3 : 2;
        }
        return has(told.written[day], stroke) ? 1 : 0;
    }

    public int up(int stroke) {
        bringUpToDate();
        return isStroke(stroke) ? toldCourse.upsOf(only(stroke)) : BAD;
    }

    public int through(int day) {
        if (!isDay(day)) {
            return BAD;
        }
        bringUpToDate();
        return Integer.bitCount(toldCourse.risen[day]);
    }

    public int misread(int what) {
        if (!isEither(what)) {
            return BAD;
        }
        bringUpToDate();
        for (int day = 0; day < DAYS; day++) {
            int lines = told.linesOf(toldCourse.risen[day]) & told.linesOf(told.written[day]);
            if (lines != 0) {
                return what == 0 ? day : leastLine(lines);
            }
        }
        return NONE;
    }

    public int most() {
        bringUpToDate();
        // Below 0, so that a stroke that comes up on no day is still told where none does better.
        int best = NONE, days = -1;
        for (int k = 0; k < told.size; k++) {
            int ups = toldCourse.upsOf(only(k));
            if (ups > days) {
                best = k;
                days = ups;
            }
        }
        return best;
    }

    public int deep(int day) {
        if (!isDay(day)) {
            return BAD;
        }
        bringUpToDate();
        return told.deepestCell(told.inside[day]);
    }

    // ---- plans

    public int oil(int what) {
        if (!isEither(what)) {
            return BAD;
        }
        bringUpToDate();
        int lines = 0;
        // A line on which something comes up stays so whatever is done to other lines, and is
        // still once it is oiled from day 0 on: just these lines are needed.
        for (int day = 0; day < DAYS; day++) {
            lines |= told.linesOf(toldCourse.risen[day]);
        }
        int many = Integer.bitCount(lines);
        if (many > MOST_OILED) {
            return NONE;
        }
        return what == 0 ? many : lines;
    }

    public int when(int stroke, int what) {
        bringUpToDate();
        if (!isStroke(stroke) || !isEither(what)) {
            return BAD;
        }
        seekDay(stroke);
        return fewest.tell(what);
    }

    public int place(int stroke, int what) {
        bringUpToDate();
        if (!isStroke(stroke) || !isEither(what)) {
            return BAD;
        }
        seekCell(stroke);
        return fewest.tell(what);
    }

    public int dry(int what) {
        if (!isEither(what)) {
            return BAD;
        }
        bringUpToDate();
        seekDryDay();
        return fewest.tell(what);
    }

    // ---- seen, chance, weather

    public int seen(int day, int cell, int sign) {
        if (!isDay(day) || !isCell(cell) || sign < 0 || sign > SIGNS) {
            return BAD;
        }
        return sights.add(day, cell, sign) ? sights.size : FULL;
    }

    public int forget() {
        int had = sights.size;
        sights.size = 0;
        return had;
    }

    public int never() {
        bringUpToDate();
        int bits = 0;
        for (int k = 0; k < told.size; k++) {
            tryWithout(k);
            if (agrees(trial, trialCourse, told.cells[k])) {
                bits |= 1 << k;
            }
        }
        return bits;
    }

    public int sign(int stroke) {
        bringUpToDate();
        if (!isStroke(stroke)) {
            return BAD;
        }
        trial.takeStrokes(told);
        int bits = 0;
        for (int sign = 0; sign < SIGNS; sign++) {
            trial.signs[stroke] = sign;
            // Which strokes come up does not hang on their signs, so the course stays as told.
            if (agrees(trial, toldCourse, told.cells[stroke])) {
                bits |= 1 << sign;
            }
        }
        return bits;
    }

    public int chalk(int stroke) {
        bringUpToDate();
        if (!isStroke(stroke)) {
            return BAD;
        }
        int cell = told.cells[stroke];
        trial.takeStrokes(told);
        trial.settle(trial.onCell(cell), care);
        int bits = 0;
        for (int chalk = 1; chalk <= STRONGEST; chalk++) {
            trial.chalks[stroke] = chalk;
            trialCourse.follow(trial, damps, fineBelow);
            if (agrees(trial, trialCourse, cell)) {
                bits |= 1 << chalk;
            }
        }
        return bits;
    }

    public int ask(int cell) {
        if (!isCell(cell)) {
            return BAD;
        }
        int asked = never();
        viewWithoutEach(asked, cell);
        fewest.begin();
        for (int day = 0; day < DAYS; day++) {
            fewest.offer(day, mostAlike(asked, day));
        }
        return fewest.which;
    }

    public long dryness(int c, int last, int day, int what) {
        if (c < 0 || c > 16 || last < 0 || last > LAST_BY_CHANCE || !isDay(day) || !isEither(what)) {
            return Long.MIN_VALUE - BAD;
        }
        bringUpToDate();
        reckonChance(c, last, day);
        return what == 0 ? chance.above : chance.below;
    }

    public int weather(int seed, int n, int what) {
        if (n < 1 || n > DAYS || !isEither(what)) {
            return BAD;
        }
        bringUpToDate();
        int lot = seed;
        for (int day = 0; day < DAYS; day++) {
            lot = 1103515245 * lot + 12345;
            otherDamps[day] = day < n ? (lot >>> 16) % 10 : 0;
        }
        trialCourse.follow(told, otherDamps, fineBelow);
        return what == 0 ? trialCourse.total() : trialCourse.daysWithSome();
    }

    // ---- sheets

    public int sheet(int s, int form, int n) {
        if (!isSheet(s) || !isForm(form) || n > ITEMS) {
            return BAD;
        }
        if (n < 0) {
            return found(SIZE_BELOW_0);
        }
        sheets[s].renew(form, n);
        return n;
    }

    public int lose(int s) {
        if (!isSheet(s)) {
            return BAD;
        }
        if (sheets[s].lost) {
            return found(NO_SUCH_SHEET);
        }
        sheets[s].lost = true;
        return sheets[s].length;
    }

    public int put(int s, int form, int i, int v) {
        if (!isSheet(s) || !isForm(form)) {
            return BAD;
        }
        int wrong = sheets[s].findingAt(form, i);
        if (wrong != 0) {
            return found(wrong);
        }
        sheets[s].items[i] = lowestBits(form, v);
        return 1;
    }

    public int get(int s, int form, int i) {
        if (!isSheet(s) || !isForm(form)) {
            return Integer.MIN_VALUE;
        }
        int wrong = sheets[s].findingAt(form, i);
        if (wrong != 0) {
            found(wrong);
            return Integer.MIN_VALUE;
        }
        return sheets[s].items[i];
    }

    public int copy(int s, int i, int t, int j, int n) {
        if (!isSheet(s) || !isSheet(t)) {
            return BAD;
        }
        Sheet from = sheets[s], to = sheets[t];
        if (from.lost || to.lost) {
            return found(NO_SUCH_SHEET);
        }
        if (from.form != to.form) {
            return found(UNLIKE_FORMS);
        }
        if (!from.holds(i, n) || !to.holds(j, n)) {
            return found(NO_SUCH_ITEM);
        }
        System.arraycopy(from.items, i, to.items, j, n);
        return 1;
    }

    public int write(int day, int s) {
        if (!isDay(day) || !isSheet(s)) {
            return BAD;
        }
        Sheet to = sheets[s];
        if (to.lost) {
            return found(NO_SUCH_SHEET);
        }
        int many = Math.min(to.length, CELLS);
        for (int cell = 0; cell < many; cell++) {
            to.items[cell] = stands(day, cell);
        }
        return many;
    }

    public int count(int what) {
        bringUpToDate();
        switch (what) {
            case 0: return dampCount;
            case 1: return told.size;
            case 2: return dampText.length;
            case 3: return strokeText.length;
            case 4: return care.wipes;
            case 5: return care.oils;
            case 6: return toldCourse.total();
            case 7: return sights.size;
            case 8: return latestFinding;
            default: return BAD;
        }
    }

    public long digest() {
        long h = 17;
        for (int what = 0; what <= 7; what++) {
            h = 31 * h + count(what);
        }
        h = 31 * h + fault(0);
        h = 31 * h + fault(1);
        h = withDay(h, 0);
        h = withDay(h, 4);
        h = withDay(h, 9);
        h = withDay(h, 19);
        for (int k = 0; k < told.size; k++) {
            h = withStroke(h, k);
            seekDay(k);
            h = withFewest(h);
            seekCell(k);
            h = withFewest(h);
            h = 31 * h + sign(k);
            h = 31 * h + chalk(k);
        }
        h = 31 * h + misread(0);
        h = 31 * h + misread(1);
        h = 31 * h + most();
        h = 31 * h + oil(0);
        h = 31 * h + oil(1);
        seekDryDay();
        h = withFewest(h);
        h = 31 * h + never();
        h = 31 * h + ask(0);
        h = 31 * h + ask(7);
        reckonChance(5, 7, 9);
        h = 31 * h + chance.above;
        h = 31 * h + chance.below;
        h = 31 * h + weather(7, 15, 0);
        return 31 * h + weather(7, 15, 1);
    }

    private long withDay(long start, int day) {
        long h = 31 * start + damp(day);
        h = 31 * h + through(day);
        h = 31 * h + deep(day);
        for (int cell = 0; cell < CELLS; cell++) {
            h = 31 * h + stands(day, cell);
        }
        return h;
    }

    private long withStroke(long start, int k) {
        long h = start;
        for (int what = 0; what <= 3; what++) {
            h = 31 * h + stroke(k, what);
        }
        h = 31 * h + state(9, k, 0);
        h = 31 * h + state(9, k, 1);
        h = 31 * h + state(19, k, 0);
        h = 31 * h + state(19, k, 1);
        return 31 * h + up(k);
    }

    private long withFewest(long start) {
        return 31 * (31 * start + fewest.which) + fewest.many;
    }

    // ---- what numbers may be

    private static boolean isText(int text) {
        return text == 0 || text == 1;
    }

    private static boolean isEither(int what) {
        return what == 0 || what == 1;
    }

    private static boolean isDay(int day) {
        return day >= 0 && day < DAYS;
    }

    private static boolean isLine(int line) {
        return line >= 0 && line < LINES;
    }

    private static boolean isCell(int cell) {
        return cell >= 0 && cell < CELLS;
    }

    private static boolean isSheet(int s) {
        return s >= 0 && s < SHEETS;
    }

    private static boolean isForm(int form) {
        return form >= 0 && form <= 2;
    }

    /** To be asked only when the strokes are up to date. */
    private boolean isStroke(int stroke) {
        return stroke >= 0 && stroke < told.size;
    }

    // ---- small things in bits
    //
    // An int has four bits for each stroke: a set of strokes has a 1 there for each that is in it,
    // strengths have 0 to 9 there. So one addition makes a whole set of strokes stronger.

    private static int only(int k) {
        return 1 << 4 * k;
    }

    private static boolean has(int set, int k) {
        return (set >>> 4 * k & 1) != 0;
    }

    private static int strengthIn(int strengths, int k) {
        return strengths >>> 4 * k & 15;
    }

    /** Answers and lines are plain bits, one after the other. */
    private static boolean hasBit(int bits, int i) {
        return (bits >> i & 1) != 0;
    }

    private static int leastLine(int lines) {
        for (int line = 0; line < LINES; line++) {
            if (hasBit(lines, line)) {
                return line;
            }
        }
        return NONE;
    }

    private static int lowestBits(int form, int v) {
        switch (form) {
            case 0: return (byte) v;
            case 1: return (short) v;
            default: return v;
        }
    }

    /** Keeps a finding for count(8); its answer. */
    private int found(int number) {
        latestFinding = number;
        return -10 - number;
    }

    // ---- the texts

    private Text textOf(int text) {
        return text == 0 ? dampText : strokeText;
    }

    private int faultOfDamps() {
        for (int i = 0; i < dampText.length; i++) {
            if (!isWithin(dampText.at(i), '0', '9')) {
                return i;
            }
        }
        return NONE;
    }

    /** A text of 55 bytes has no room for a ninth stroke, so none needs to be looked for. */
    private int faultOfStrokes() {
        int length = strokeText.length;
        for (int i = 0; i < length; i++) {
            if (!fitsStroke(i % STROKE_STEP, strokeText.at(i))) {
                return i;
            }
        }
        return length == 0 || length % STROKE_STEP == STROKE_STEP - 1 ? NONE : length;
    }

    private static boolean fitsStroke(int spot, int b) {
        switch (spot) {
            case 0: return isWithin(b, '0', '1');
            case 1: return isWithin(b, '0', '9');
            case 2:
            case 3: return isWithin(b, '0', '5');
            case 4: return isWithin(b, 'a', 'f');
            case 5: return isWithin(b, '1', '9');
            default: return b == ';';
        }
    }

    private static boolean isWithin(int b, int least, int greatest) {
        return b >= least && b <= greatest;
    }

    /** Most calls only ask, so what follows from texts, wipes and oils is kept until one changes. */
    private void bringUpToDate() {
        if (!stale) {
            return;
        }
        parseDamps();
        parseStrokes();
        told.settle(told.everyone(), care);
        toldCourse.follow(told, damps, fineBelow);
        stale = false;
    }

    private void parseDamps() {
        dampCount = faultOfDamps() == NONE ? Math.min(dampText.length, DAYS) : 0;
        for (int day = 0; day < DAYS; day++) {
            damps[day] = day < dampCount ? dampText.at(day) - '0' : 0;
        }
    }

    private void parseStrokes() {
        told.size = 0;
        if (faultOfStrokes() != NONE) {
            return;
        }
        for (int i = 0; i < strokeText.length && told.size < STROKES; i += STROKE_STEP) {
            int k = told.size;
            told.days[k] = 10 * (strokeText.at(i) - '0') + strokeText.at(i + 1) - '0';
            told.cells[k] = LINES * (strokeText.at(i + 2) - '0') + strokeText.at(i + 3) - '0';
            told.signs[k] = strokeText.at(i + 4) - 'a';
            told.chalks[k] = strokeText.at(i + 5) - '0';
            told.size++;
        }
    }

    // ---- plans: a stroke changed in the trial, and the fewest that come up by it

    private void seekDay(int stroke) {
        int cell = told.cells[stroke];
        int there = told.onCell(cell);
        int elsewhere = toldCourse.upsOf(~there);
        trial.takeStrokes(told);
        fewest.begin();
        for (int day = 0; day < DAYS; day++) {
            trial.days[stroke] = day;
            fewest.offer(day, elsewhere + upsInTrial(there));
        }
    }

    private void seekCell(int stroke) {
        int own = told.cells[stroke];
        int mates = told.onCell(own);
        trial.takeStrokes(told);
        int leftBehind = upsInTrial(mates & ~only(stroke));
        int emptyLine = NONE;
        fewest.begin();
        for (int cell = 0; cell < CELLS; cell++) {
            int there = told.onCell(cell);
            boolean empty = (there & ~only(stroke)) == 0;
            // Empty cells of a line are alike, and of like ones the first is wanted.
            if (empty && emptyLine == cell / LINES) {
                continue;
            }
            emptyLine = empty ? cell / LINES : emptyLine;
            trial.cells[stroke] = cell;
            int elsewhere = toldCourse.upsOf(~(mates | there)) + (cell == own ? 0 : leftBehind);
            fewest.offer(cell, elsewhere + upsInTrial(there | only(stroke)));
        }
    }

    private void seekDryDay() {
        System.arraycopy(damps, 0, otherDamps, 0, DAYS);
        fewest.begin();
        for (int day = 0; day < DAYS; day++) {
            otherDamps[day] = 0;
            trialCourse.follow(told, otherDamps, fineBelow);
            fewest.offer(day, trialCourse.total());
            otherDamps[day] = damps[day];
        }
    }

    private int upsInTrial(int kept) {
        trial.settle(kept, care);
        trialCourse.follow(trial, damps, fineBelow);
        return trialCourse.total();
    }

    // ---- what was seen

    /** Leaves in the trial the cell of a stroke as it is without that stroke. */
    private void tryWithout(int stroke) {
        trial.takeStrokes(told);
        trial.settle(told.onCell(told.cells[stroke]) & ~only(stroke), care);
        trialCourse.follow(trial, damps, fineBelow);
    }

    /** Whether all that was seen comes out, if one cell goes as told here and all others as ever. */
    private boolean agrees(Board board, Course course, int cell) {
        for (int i = 0; i < sights.size; i++) {
            int day = sights.days[i];
            int where = sights.cells[i];
            int came = where == cell
                    ? board.signRisen(where, course.risen[day])
                    : told.signRisen(where, toldCourse.risen[day]);
            if (came != sights.signs[i]) {
                return false;
            }
        }
        return true;
    }

    private void viewWithoutEach(int asked, int cell) {
        for (int k = 0; k < told.size; k++) {
            if (!hasBit(asked, k)) {
                continue;
            }
            boolean changes = told.cells[k] == cell;
            if (changes) {
                tryWithout(k);
            }
            for (int day = 0; day < DAYS; day++) {
                views[k * DAYS + day] = changes
                        ? trial.shownOn(day, cell, trialCourse.risen[day])
                        : told.shownOn(day, cell, toldCourse.risen[day]);
            }
        }
    }

    /** Of the strokes asked about: the greatest number by which the like is viewed on a day. */
    private int mostAlike(int asked, int day) {
        int greatest = 0;
        for (int k = 0; k < told.size; k++) {
            int alike = 0;
            for (int j = 0; j < told.size && hasBit(asked, k); j++) {
                if (hasBit(asked, j) && views[j * DAYS + day] == views[k * DAYS + day]) {
                    alike++;
                }
            }
            greatest = Math.max(greatest, alike);
        }
        return greatest;
    }

    // ---- chance

    private void reckonChance(int c, int last, int day) {
        // Only cells that can show something on that day, which is damp, need to be followed.
        int watched = damps[day] == 0 ? 0 : told.withMates(told.able[day]);
        trial.takeStrokes(told);
        trial.settle(watched, care);
        chance.sixteenths = c;
        chance.last = Math.min(last, day);
        chance.day = day;
        chance.fineBelow = fineBelow;
        long above = stillFrom(chance, trial, damps, 0, trial.freshStrengths());
        chance.reduce(above, 4 * (chance.last + 1));
    }

    /**
     * In how many cases, 16 for each day from this one on that is left to chance, nothing comes up
     * on the day asked about. Goes no deeper than there are days.
     */
    private static long stillFrom(Chance chance, Board board, int[] damps, int day, int strengths) {
        int c = chance.sixteenths;
        int risen = board.risenOn(day, damps[day], strengths);
        if (day >= chance.day) {
            long still = risen == 0 ? 1 : 0;
            return day <= chance.last ? c + (16 - c) * still : still;
        }
        int wet = board.weathered(day, risen, strengths, damps[day] < chance.fineBelow);
        if (day > chance.last) {
            return stillFrom(chance, board, damps, day + 1, wet);
        }
        int dry = board.weathered(day, 0, strengths, 0 < chance.fineBelow);
        if (dry == wet) {
            return 16 * stillFrom(chance, board, damps, day + 1, wet);
        }
        long byDry = c == 0 ? 0 : c * stillFrom(chance, board, damps, day + 1, dry);
        long byWet = c == 16 ? 0 : (16 - c) * stillFrom(chance, board, damps, day + 1, wet);
        return byDry + byWet;
    }

    /** Bytes that come and go at the end. */
    private static final class Text {
        private final int[] bytes;
        private int length = 0;

        Text(int room) {
            bytes = new int[Math.max(0, room)];
        }

        boolean add(int b) {
            if (length >= bytes.length) {
                return false;
            }
            bytes[length] = b;
            length++;
            return true;
        }

        int at(int i) {
            return i >= 0 && i < length ? bytes[i] : NONE;
        }
    }

    /** The wipes and the oils. */
    private static final class Care {
        private final int[] wipeDays = new int[WIPES];
        private final int[] wipeLines = new int[WIPES];
        private final int[] oilDays = new int[OILS];
        private final int[] oilLines = new int[OILS];
        private int wipes = 0;
        private int oils = 0;

        boolean addWipe(int day, int line) {
            if (wipes >= WIPES) {
                return false;
            }
            wipeDays[wipes] = day;
            wipeLines[wipes] = line;
            wipes++;
            return true;
        }

        boolean addOil(int day, int line) {
            if (oils >= OILS) {
                return false;
            }
            oilDays[oils] = day;
            oilLines[oils] = line;
            oils++;
            return true;
        }

        /** The first day behind a day on which a line is wiped; DAYS if there is none. */
        int wipedBehind(int day, int line) {
            int first = DAYS;
            for (int i = 0; i < wipes; i++) {
                if (wipeLines[i] == line && wipeDays[i] > day && wipeDays[i] < first) {
                    first = wipeDays[i];
                }
            }
            return first;
        }

        /** The day from which on a line is oiled; DAYS if it never is. */
        int oiledFrom(int line) {
            int first = DAYS;
            for (int i = 0; i < oils; i++) {
                if (oilLines[i] == line && oilDays[i] < first) {
                    first = oilDays[i];
                }
            }
            return first;
        }
    }

    /** Strokes, and what of them holds in any weather. */
    private static final class Board {
        private int size = 0;
        private final int[] days = new int[STROKES];
        private final int[] cells = new int[STROKES];
        private final int[] signs = new int[STROKES];
        private final int[] chalks = new int[STROKES];
        private final int[] mates = new int[STROKES];
        private final int[] written = new int[DAYS];
        private final int[] inside = new int[DAYS];
        private final int[] able = new int[DAYS];

        void takeStrokes(Board other) {
            size = other.size;
            System.arraycopy(other.days, 0, days, 0, STROKES);
            System.arraycopy(other.cells, 0, cells, 0, STROKES);
            System.arraycopy(other.signs, 0, signs, 0, STROKES);
            System.arraycopy(other.chalks, 0, chalks, 0, STROKES);
        }

        int everyone() {
            int set = 0;
            for (int k = 0; k < size; k++) {
                set |= only(k);
            }
            return set;
        }

        int onCell(int cell) {
            int set = 0;
            for (int k = 0; k < size; k++) {
                if (cells[k] == cell) {
                    set |= only(k);
                }
            }
            return set;
        }

        int withMates(int set) {
            int all = 0;
            for (int k = 0; k < size; k++) {
                if (has(set, k)) {
                    all |= mates[k];
                }
            }
            return all;
        }

        /** Only the strokes kept are on the board. */
        void settle(int kept, Care care) {
            for (int day = 0; day < DAYS; day++) {
                written[day] = 0;
                inside[day] = 0;
                able[day] = 0;
            }
            for (int k = 0; k < size; k++) {
                if (has(kept, k)) {
                    mates[k] = onCell(cells[k]) & kept;
                    settleStroke(k, goesIn(k, care));
                }
            }
            for (int k = 0; k < size; k++) {
                if (has(kept, k)) {
                    settleAble(k, care.oiledFrom(cells[k] / LINES));
                }
            }
        }

        /** The day on which a stroke goes in; DAYS if it never does. */
        private int goesIn(int k, Care care) {
            int gone = care.wipedBehind(days[k], cells[k] / LINES);
            for (int j = 0; j < size; j++) {
                boolean later = days[j] > days[k] || days[j] == days[k] && j > k;
                if (later && has(mates[k], j)) {
                    gone = Math.min(gone, days[j]);
                }
            }
            return gone;
        }

        private void settleStroke(int k, int gone) {
            int one = only(k);
            for (int day = Math.max(0, days[k]); day < DAYS; day++) {
                if (day < gone) {
                    written[day] |= one;
                } else {
                    inside[day] |= one;
                }
            }
        }

        private void settleAble(int k, int oiled) {
            int one = only(k);
            int crowd = mates[k];
            for (int day = 0; day < DAYS && day < oiled; day++) {
                if ((written[day] & crowd) == 0) {
                    able[day] |= inside[day] & one;
                }
            }
        }

        int freshStrengths() {
            int strengths = 0;
            for (int k = 0; k < size; k++) {
                strengths |= chalks[k] << 4 * k;
            }
            return strengths;
        }

        int risenOn(int day, int damp, int strengths) {
            int left = damp > 0 ? able[day] : 0;
            int risen = 0;
            for (int k = 0; k < size && left != 0; k++) {
                if (has(left, k)) {
                    int crowd = left & mates[k];
                    int top = crowd == only(k) ? k : strongest(crowd, strengths);
                    if (strengthIn(strengths, top) + damp >= SHOWS) {
                        risen |= only(top);
                    }
                    left &= ~crowd;
                }
            }
            return risen;
        }

        private int strongest(int crowd, int strengths) {
            int top = 0, most = -1;
            for (int k = 0; k < size; k++) {
                int strength = strengths >>> 4 * k & 15;
                if ((crowd >>> 4 * k & 1) != 0 && strength >= most) {
                    top = k;
                    most = strength;
                }
            }
            return top;
        }

        /** The strengths behind a day. */
        int weathered(int day, int risen, int strengths, boolean fair) {
            // Of 0 to 9 only 9 has both its lowest and its highest bit, and only 0 has none.
            int full = strengths & strengths >>> 3;
            int some = strengths | strengths >>> 1 | strengths >>> 2 | strengths >>> 3;
            int fading = fair ? inside[day] & ~risen : 0;
            return strengths + (risen & ~full) - (fading & some);
        }

        int shownOn(int day, int cell, int risen) {
            for (int k = 0; k < size; k++) {
                if (cells[k] == cell) {
                    if (has(written[day], k)) {
                        return signs[k];
                    }
                    if (has(risen, k)) {
                        return SIGNS + signs[k];
                    }
                }
            }
            return NONE;
        }

        /** The sign that has risen on a cell; SIGNS if none has. */
        int signRisen(int cell, int risen) {
            for (int k = 0; k < size; k++) {
                if (cells[k] == cell && has(risen, k)) {
                    return signs[k];
                }
            }
            return SIGNS;
        }

        int linesOf(int set) {
            int lines = 0;
            for (int k = 0; k < size; k++) {
                if (has(set, k)) {
                    lines |= 1 << cells[k] / LINES;
                }
            }
            return lines;
        }

        /** The least of the cells that have most of these strokes. */
        int deepestCell(int set) {
            int best = NONE, most = 0;
            for (int k = 0; k < size; k++) {
                if (has(set, k)) {
                    int many = Integer.bitCount(set & mates[k]);
                    if (many > most || many == most && cells[k] < best) {
                        best = cells[k];
                        most = many;
                    }
                }
            }
            return best;
        }
    }

    /** What comes up day by day in one weather, and the strengths behind each day. */
    private static final class Course {
        private final int[] risen = new int[DAYS];
        private final int[] strengths = new int[DAYS];

        void follow(Board board, int[] damps, int fineBelow) {
            int now = board.freshStrengths();
            for (int day = 0; day < DAYS && day < damps.length; day++) {
                risen[day] = board.risenOn(day, damps[day], now);
                now = board.weathered(day, risen[day], now, damps[day] < fineBelow);
                strengths[day] = now;
            }
        }

        int upsOf(int set) {
            int ups = 0;
            for (int day = 0; day < DAYS; day++) {
                ups += Integer.bitCount(risen[day] & set);
            }
            return ups;
        }

        int total() {
            return upsOf(-1);
        }

        int daysWithSome() {
            int some = 0;
            for (int day = 0; day < DAYS; day++) {
                if (risen[day] != 0) {
                    some++;
                }
            }
            return some;
        }
    }

    /** What was seen to come up. */
    private static final class Sights {
        private final int[] days = new int[SIGHTS];
        private final int[] cells = new int[SIGHTS];
        private final int[] signs = new int[SIGHTS];
        private int size = 0;

        boolean add(int day, int cell, int sign) {
            if (size >= SIGHTS) {
                return false;
            }
            days[size] = day;
            cells[size] = cell;
            signs[size] = sign;
            size++;
            return true;
        }
    }

    /** The first of those offered that has fewest. */
    private static final class Fewest {
        private int which = NONE;
        private int many = Integer.MAX_VALUE;

        void begin() {
            which = NONE;
            many = Integer.MAX_VALUE;
        }

        void offer(int candidate, int number) {
            if (number < many) {
                which = candidate;
                many = number;
            }
        }

        int tell(int what) {
            return what == 0 ? which : many;
        }
    }

    /** What is asked about dry days by chance, and the fraction that answers it. */
    private static final class Chance {
        private int sixteenths = 0;
        private int last = 0;
        private int day = 0;
        private int fineBelow = 0;
        private long above = 0;
        private long below = 1;

        /** Below stands a power of two, so lowest terms are reached by halving. */
        void reduce(long cases, int power) {
            long rest = cases;
            int halvings = 0;
            while (halvings < power && (rest & 1) == 0) {
                rest >>= 1;
                halvings++;
            }
            above = rest;
            below = 1L << power - halvings;
        }
    }

    /** A row of items of a form, or lost; the row is made once and used again. */
    private static final class Sheet {
        private final int[] items = new int[ITEMS];
        private boolean lost = true;
        private int form = 0;
        private int length = 0;

        void renew(int newForm, int n) {
            lost = false;
            form = newForm;
            length = Math.min(n, ITEMS);
            for (int i = 0; i < ITEMS; i++) {
                items[i] = 0;
            }
        }

        /** What speaks against item i as of a form; 0 if nothing does. */
        int findingAt(int asForm, int i) {
            if (lost) {
                return NO_SUCH_SHEET;
            }
            if (form != asForm) {
                return OTHER_FORM;
            }
            return i >= 0 && i < length ? 0 : NO_SUCH_ITEM;
        }

        /** Whether there are n items from i on; written so that no sum can wrap. */
        boolean holds(int i, int n) {
            return i >= 0 && n >= 0 && i <= length && n <= length - i;
        }
    }
}
