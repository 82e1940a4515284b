/** A fugue on paper; the document ../shared/DOC.md tells what every call answers. */
public final class FuguePlan {
    public static final int NONE = -1, BAD = -2, NO = -3, FULL = -4;

    private static final int SILENT = -1000, BAD_STEP = -2000;
    private static final int NO_SUCH_VISIT = -5, BAD_PLACE = -10;
    private static final int FAULT_BASE = -10, STOP_BASE = -1000;

    private static final int LINES = 4, MOST_NOTES = 10, MOST_STEP = 27, MOST_TICKS = 4;
    private static final int MOST_SEED = 999999, FIRST_DRAWN_STEP = 14;
    private static final int PLAIN = 0, ANSWER = 1, TURNED = 2, BACKWARDS = 3, LONG = 4, FORMS = 5;
    private static final int MOST_MOVE = 21, MOVES = 2 * MOST_MOVE + 1;
    private static final int HEAD = 0, TONIC = 1, METER = 2, HOME = 3;
    private static final int VOICES = 4, MOST_ENTRIES = 10, MOST_START = 199;
    private static final int MOST_SOUNDING = 2 * MOST_NOTES * MOST_TICKS;
    private static final int CLASH = 0, PARALLEL = 2, KINDS = 3;
    private static final int MOST_INVERSION = 20;
    private static final int LEAST_ROW_VOICES = 2, MOST_ROWS = 24, ROW_BASE = 10000;
    private static final int CIRCLE = 12, KEYS = 24, MOST_VISITS = 5, MOST_PATHS = 120, FAR = 1000000;
    private static final int MOST_BYTES = 120, MOST_FIGURES = 3, BLANK = 32;
    private static final int MOST_STATES = 5;
    private static final int TOLD = 10;

    private final Plan plan = new Plan();
    private final Plan before = new Plan();
    private final History history = new History();
    private final Reader text = new Reader();
    private int bads;
    private int noes;
    private int fulls;

    // Rooms to work in, made once: a call makes no objects of its own.
    private final Sound upper = new Sound();
    private final Sound lower = new Sound();
    private final Faults faults = new Faults();
    private final Chorus chorus = new Chorus();
    private final Entries rowEntries = new Entries();
    private final int[] row = new int[VOICES];
    private final Tour tour = new Tour();

    public FuguePlan() {
    }

    // ---- lines

    public int note(int l, int step, int ticks) {
        before.copyFrom(plan);
        return settled(plan.addNote(l, step, ticks));
    }

    public int drop(int l, int i) {
        before.copyFrom(plan);
        return settled(plan.dropNote(l, i));
    }

    public int empties(int l) {
        before.copyFrom(plan);
        return settled(plan.emptyLine(l));
    }

    public int draw(int l, int seed, int n) {
        before.copyFrom(plan);
        return settled(plan.drawLine(l, seed, n));
    }

    public int sets(int what, int v) {
        before.copyFrom(plan);
        return settled(plan.setValue(what, v));
    }

    public int noteOf(int l, int i, int what) {
        if (!isLine(l) || !plan.lines[l].has(i) || !within(what, 0, 3)) return refused(BAD);
        Line line = plan.lines[l];
        if (what == 0) return line.stepOf(i);
        if (what == 1) return line.ticksOf(i);
        if (what == 2) return line.tickBefore(i);
        return line.formedStep(ANSWER, i, plan.head, plan.tonic);
    }

    public int line(int l, int what) {
        if (!isLine(l) || !within(what, 0, 4)) return refused(BAD);
        Line line = plan.lines[l];
        if (what == 0) return line.length();
        if (what == 1) return line.count;
        if (what == 2) return line.leastStep();
        if (what == 3) return line.greatestStep();
        return plan.entries.having(l);
    }

    public int step(int l, int f, int m, int t) {
        if (!isFormed(l, f, m) || t < 0) {
            refused(BAD);
            return BAD_STEP;
        }
        plan.form(upper, l, f, m);
        upper.place(0, 0);
        return upper.stepAt(t);
    }

    // ---- entries

    public int enters(int l, int f, int m, int s, int v) {
        before.copyFrom(plan);
        return settled(plan.addEntry(l, f, m, s, v));
    }

    public int leaves(int e) {
        before.copyFrom(plan);
        return settled(plan.removeEntry(e));
    }

    public int entry(int e, int what) {
        if (!plan.entries.has(e) || !within(what, 0, 5)) return refused(BAD);
        Entry entry = plan.entries.items[e];
        if (what == 0) return entry.line;
        if (what == 1) return entry.form;
        if (what == 2) return entry.start;
        if (what == 3) return entry.voice;
        if (what == 4) return plan.lengthOf(entry.line, entry.form);
        return entry.move + MOST_MOVE;
    }

    public int sounds(int v, int t) {
        if (!within(v, 0, VOICES - 1) || t < 0) {
            refused(BAD);
            return BAD_STEP;
        }
        chorus.gather(plan, plan.entries);
        return chorus.stepOf(v, t);
    }

    public int faults(int e, int g, int what) {
        if (!plan.entries.has(e) || !plan.entries.has(g) || e == g || !within(what, 0, KINDS)) {
            return refused(BAD);
        }
        chorus.gather(plan, plan.entries);
        faults.forget();
        faults.addPair(chorus.items[e], chorus.items[g], plan.meter);
        return faults.number(what);
    }

    public int all(int what) {
        if (!within(what, 0, 5)) return refused(BAD);
        chorus.gather(plan, plan.entries);
        if (what == 4) return chorus.end();
        if (what == 5) return chorus.mostAtOnce();
        chorus.countFaults(faults, plan.meter);
        return faults.number(what);
    }

    public int first(int what) {
        if (!within(what, 0, 2)) return refused(BAD);
        chorus.gather(plan, plan.entries);
        int tick = chorus.firstFaultTick(plan.meter);
        if (tick == NONE || what == 0) return tick;
        int kind = chorus.leastKindAt(tick, plan.meter);
        return what == 1 ? kind : chorus.firstPairAt(tick, kind, plan.meter);
    }

    // ---- strettos and inversions

    public int stretto(int l, int f, int m, int d, int what) {
        if (!isFormed(l, f, m) || !within(d, 1, plan.lines[l].length() - 1) || !within(what, 0, 3)) {
            return refused(BAD);
        }
        formStretto(l, f, m);
        boolean fits = strettoFits(d);
        return what == 3 ? (fits ? 1 : 0) : faults.number(what);
    }

    public long strettos(int l, int f, int m) {
        if (!isFormed(l, f, m)) return refused(BAD);
        formStretto(l, f, m);
        int length = plan.lines[l].length();
        long delays = 0;
        for (int d = 1; d < length; d++) {
            if (strettoFits(d)) delays |= 1L << d;
        }
        return delays;
    }

    public int closest(int l, int what) {
        if (!isLine(l) || !within(what, 0, 2)) return refused(BAD);
        int found = closestStretto(l);
        if (found == NONE) return NONE;
        if (what == 0) return found / (FORMS * MOVES);
        if (what == 1) return found / MOVES % FORMS;
        return found % MOVES;
    }

    public int inverted(int a, int b, int n, int what) {
        if (!areTwoLines(a, b) || !within(n, 0, MOST_INVERSION) || !within(what, 0, 3)) return refused(BAD);
        boolean well = invertsWell(a, b, n);
        return what == 3 ? (well ? 1 : 0) : faults.number(what);
    }

    public int inversions(int a, int b) {
        if (!areTwoLines(a, b)) return refused(BAD);
        int well = 0;
        for (int n = 0; n <= MOST_INVERSION; n++) {
            if (invertsWell(a, b, n)) well |= 1 << n;
        }
        return well;
    }

    // ---- orders of voices

    public int order(int v, int row) {
        if (!takesRow(v, row)) return refused(BAD);
        if (plan.lines[0].isEmpty()) return refused(NO);
        return rowFaults(v);
    }

    public int best(int v, int what) {
        if (!areRowVoices(v) || !within(what, 0, 1)) return refused(BAD);
        if (plan.lines[0].isEmpty()) return refused(NO);
        int found = bestRow(v);
        return what == 0 ? found % ROW_BASE : found / ROW_BASE;
    }

    public int lays(int v) {
        if (!areRowVoices(v)) return refused(BAD);
        if (plan.lines[0].isEmpty()) return refused(NO);
        before.copyFrom(plan);
        takesRow(v, bestRow(v) % ROW_BASE);
        layRow(v);
        plan.entries.copyFrom(rowEntries);
        return settled(plan.entries.count);
    }

    // ---- keys

    public int way(int a, int b) {
        if (!isKey(a) || !isKey(b)) return refused(BAD);
        return wayBetween(a, b);
    }

    public int next(int a, int b) {
        if (!isKey(a) || !isKey(b)) return refused(BAD);
        for (int k = 0; k < KEYS; k++) {
            int road = roadBetween(a, k);
            if (road > 0 && road + wayBetween(k, b) == wayBetween(a, b)) return k;
        }
        return NONE;
    }

    public int visits(int k) {
        before.copyFrom(plan);
        return settled(plan.addVisit(k));
    }

    public int skips(int k) {
        before.copyFrom(plan);
        return settled(plan.removeVisit(k));
    }

    public int path(int i) {
        if (i < NONE) {
            refused(BAD);
            return BAD_PLACE;
        }
        if (i >= plan.visitCount || i >= MOST_VISITS) return NO_SUCH_VISIT;
        tour.find(plan);
        return i == NONE ? tour.length : tour.best[i];
    }

    // ---- texts

    public int type(int c) {
        if (!within(c, 0, 127)) return refused(BAD);
        if (text.length >= MOST_BYTES) return refused(FULL);
        return text.append(c);
    }

    public int clear() {
        int had = text.length;
        text.length = 0;
        return had;
    }

    public int reads() {
        int fault = text.parse();
        if (fault != NONE) return FAULT_BASE - fault;
        before.copyFrom(plan);
        for (int n = 0; n < text.orders; n++) {
            if (!isDone(n)) {
                plan.copyFrom(before);
                return STOP_BASE - n;
            }
        }
        return settled(text.orders);
    }

    public int back() {
        if (!history.giveBack(plan)) return refused(NO);
        return history.count;
    }

    public int told(int what) {
        switch (what) {
            case 0: return bads;
            case 1: return noes;
            case 2: return fulls;
            case 3: return text.length;
            case 4: return plan.entries.count;
            case 5: return plan.head;
            case 6: return plan.tonic;
            case 7: return plan.meter;
            case 8: return plan.home;
            case 9: return plan.visitCount;
            case 10: return history.count;
            default: return refused(BAD);
        }
    }

    public long digest() {
        long h = 2267;
        for (int what = 0; what <= TOLD; what++) h = 31 * h + told(what);
        for (int l = 0; l < LINES; l++) h = lineDigest(h, l);
        for (int e = 0; e < plan.entries.count; e++) {
            for (int what = 0; what <= 5; what++) h = 31 * h + entry(e, what);
        }
        for (int what = 0; what <= 5; what++) h = 31 * h + all(what);
        return 31 * h + path(NONE);
    }

    private long lineDigest(long sofar, int l) {
        long h = 31 * sofar + line(l, 0);
        h = 31 * h + line(l, 1);
        for (int i = 0; i < plan.lines[l].count; i++) {
            for (int what = 0; what <= 3; what++) h = 31 * h + noteOf(l, i, what);
        }
        return h;
    }

    // ---- what calls have in common

    private static boolean within(int n, int least, int most) {
        return n >= least && n <= most;
    }

    private static boolean isLine(int l) {
        return within(l, 0, LINES - 1);
    }

    private static boolean isKey(int k) {
        return within(k, 0, KEYS - 1);
    }

    private static boolean isFormed(int l, int f, int m) {
        return isLine(l) && within(f, 0, FORMS - 1) && within(m, -MOST_MOVE, MOST_MOVE);
    }

    private static boolean areTwoLines(int a, int b) {
        return isLine(a) && isLine(b) && a != b;
    }

    private static boolean areRowVoices(int v) {
        return within(v, LEAST_ROW_VOICES, VOICES);
    }

    private int refused(int why) {
        if (why == BAD) bads++;
        if (why == NO) noes++;
        if (why == FULL) fulls++;
        return why;
    }

    /** A call told S: below 0 it was refused, else how all stood before it is kept. */
    private int settled(int answer) {
        if (answer < 0) return refused(answer);
        history.keep(before);
        return answer;
    }

    // ---- strettos and inversions, inside

    private void formStretto(int l, int f, int m) {
        plan.form(upper, l, PLAIN, 0);
        upper.place(0, 0);
        plan.form(lower, l, f, m);
    }

    private boolean strettoFits(int d) {
        lower.place(d, 1);
        faults.forget();
        faults.addPair(upper, lower, plan.meter);
        return faults.number(CLASH) == 0 && faults.number(PARALLEL) == 0;
    }

    /** DELAY, FORM, MOVE and 21 of the closest one as one number, or NONE. */
    private int closestStretto(int l) {
        plan.form(upper, l, PLAIN, 0);
        upper.place(0, 0);
        int length = plan.lengthOf(l, PLAIN);
        for (int d = 1; d < length; d++) {
            for (int f = 0; f < FORMS; f++) {
                for (int n = 0; n < MOVES; n++) {
                    int m = nearMove(n);
                    plan.form(lower, l, f, m);
                    if (strettoFits(d)) return (d * FORMS + f) * MOVES + m + MOST_MOVE;
                }
            }
        }
        return NONE;
    }

    /** 0, -1, 1, -2, 2 and so on: the order in which MOVES are preferred. */
    private static int nearMove(int n) {
        int size = (n + 1) / 2;
        return n % 2 == 1 ? -size : size;
    }

    private boolean invertsWell(int a, int b, int n) {
        plan.form(upper, b, PLAIN, n);
        upper.place(0, 0);
        plan.form(lower, a, PLAIN, 0);
        lower.place(0, 1);
        faults.forget();
        faults.addPair(upper, lower, plan.meter);
        return faults.number(KINDS) == 0;
    }

    // ---- orders of voices, inside

    /** Takes an ORDER apart into its figures; false if it is none. */
    private boolean takesRow(int v, int number) {
        if (!areRowVoices(v) || number < 0) return false;
        int left = number;
        int seen = 0;
        for (int k = v - 1; k >= 0; k--) {
            int voice = left % 10;
            left /= 10;
            if (voice >= v || (seen >> voice & 1) == 1) return false;
            seen |= 1 << voice;
            row[k] = voice;
        }
        return left == 0;
    }

    private int rowNumber(int v) {
        int number = 0;
        for (int k = 0; k < v; k++) number = 10 * number + row[k];
        return number;
    }

    private void layRow(int v) {
        int length = plan.lines[0].length();
        rowEntries.count = 0;
        for (int k = 0; k < v; k++) {
            boolean even = k % 2 == 0;
            int move = -7 * row[k];
            rowEntries.append(0, even ? PLAIN : ANSWER, move, k * length, row[k]);
            if (k < v - 1 && !plan.lines[1].isEmpty()) {
                rowEntries.append(1, PLAIN, even ? move + 4 : move, (k + 1) * length, row[k]);
            }
        }
    }

    private int rowFaults(int v) {
        layRow(v);
        chorus.gather(plan, rowEntries);
        chorus.countFaults(faults, plan.meter);
        return faults.number(KINDS);
    }

    /** FAULTS of the BEST ORDER times ROW_BASE, and the ORDER: the least such number is the best. */
    private int bestRow(int v) {
        for (int k = 0; k < v; k++) row[k] = k;
        int least = rowFaults(v) * ROW_BASE + rowNumber(v);
        for (int n = 1; n < MOST_ROWS && toNextRow(row, v); n++) {
            least = Math.min(least, rowFaults(v) * ROW_BASE + rowNumber(v));
        }
        return least;
    }

    /** Makes the first n of a row of unlike numbers their next greater order; false if there is none. */
    private static boolean toNextRow(int[] row, int n) {
        if (n > row.length) return false;
        int i = n - 2;
        while (i >= 0 && row[i] > row[i + 1]) i--;
        if (i < 0) return false;
        int j = n - 1;
        while (j > i + 1 && row[j] < row[i]) j--;
        exchange(row, i, j);
        for (int a = i + 1, b = n - 1; a < b; a++, b--) exchange(row, a, b);
        return true;
    }

    private static void exchange(int[] row, int a, int b) {
        int kept = row[a];
        row[a] = row[b];
        row[b] = kept;
    }

    // ---- keys, inside

    private static int modeOf(int key) {
        return key / CIRCLE;
    }

    /** How many KEYS one goes on in one circle, the shorter way round. */
    private static int turns(int from, int to) {
        int on = Math.floorMod(to - from, CIRCLE);
        return Math.min(on, CIRCLE - on);
    }

    /** Of a ROAD from a to b; 0: there is none. */
    private static int roadBetween(int a, int b) {
        if (modeOf(a) == modeOf(b)) return turns(a, b) == 1 ? 1 : 0;
        int major = Math.min(a, b);
        int minor = Math.max(a, b);
        if (turns(major, minor) == 0) return 1;
        return turns(major + 9, minor) == 0 ? 2 : 0;
    }

    /**
     * Changing MODE there and back is at best three KEYS on by ROADS of three together, and so
     * never shorter than the circle: a shortest WAY changes once at most, by one of two ROADS.
     */
    private static int wayBetween(int a, int b) {
        if (modeOf(a) == modeOf(b)) return turns(a, b);
        int major = Math.min(a, b);
        int minor = Math.max(a, b);
        return Math.min(1 + turns(major, minor), 2 + turns(major + 9, minor));
    }

    // ---- orders of work, inside

    private boolean isDone(int n) {
        int from = text.firstNumber(n);
        int to = text.firstNumber(n + 1);
        switch (text.letter(n)) {
            case 'l': return lineIsDone(from, to);
            case 'e': return plan.addEntry(text.number(from), text.number(from + 1), text.number(from + 2),
                    text.number(from + 3), text.number(from + 4)) >= 0;
            case 'h': return plan.setValue(HEAD, text.number(from)) >= 0;
            case 't': return plan.setValue(TONIC, text.number(from)) >= 0;
            case 'm': return plan.setValue(METER, text.number(from)) >= 0;
            default: return visitsAreDone(from, to);
        }
    }

    private boolean lineIsDone(int from, int to) {
        int l = text.number(from);
        if (plan.emptyLine(l) < 0) return false;
        for (int i = from + 1; i + 1 < to; i += 2) {
            if (plan.addNote(l, text.number(i), text.number(i + 1)) < 0) return false;
        }
        return true;
    }

    private boolean visitsAreDone(int from, int to) {
        plan.visitCount = 0;
        for (int i = from; i < to; i++) {
            if (plan.addVisit(text.number(i)) < 0) return false;
        }
        return true;
    }

    /** NOTES one behind the other. */
    private static final class Line {
        final int[] steps = new int[MOST_NOTES];
        final int[] ticks = new int[MOST_NOTES];
        int count;

        void copyFrom(Line other) {
            for (int i = 0; i < MOST_NOTES; i++) {
                steps[i] = other.steps[i];
                ticks[i] = other.ticks[i];
            }
            count = other.count;
        }

        boolean has(int i) {
            return i >= 0 && i < count && count <= MOST_NOTES;
        }

        boolean isEmpty() {
            return count <= 0;
        }

        boolean isFull() {
            return count >= MOST_NOTES;
        }

        void append(int step, int length) {
            if (isFull()) return;
            steps[count] = step;
            ticks[count] = length;
            count++;
        }

        void remove(int i) {
            if (!has(i)) return;
            for (int j = i + 1; j < count; j++) {
                steps[j - 1] = steps[j];
                ticks[j - 1] = ticks[j];
            }
            count--;
        }

        int stepOf(int i) {
            return has(i) ? steps[i] : 0;
        }

        int ticksOf(int i) {
            return has(i) ? ticks[i] : 0;
        }

        int tickBefore(int i) {
            int sum = 0;
            for (int j = 0; j < i && j < count; j++) sum += ticks[j];
            return sum;
        }

        int length() {
            return tickBefore(count);
        }

        int leastStep() {
            int least = isEmpty() ? NONE : stepOf(0);
            for (int i = 1; i < count; i++) least = Math.min(least, stepOf(i));
            return least;
        }

        int greatestStep() {
            int greatest = isEmpty() ? NONE : stepOf(0);
            for (int i = 1; i < count; i++) greatest = Math.max(greatest, stepOf(i));
            return greatest;
        }

        int formedStep(int form, int i, int head, int tonic) {
            if (!has(i)) return 0;
            if (form == BACKWARDS) return steps[count - 1 - i];
            if (form == TURNED) return 2 * steps[0] - steps[i];
            if (form != ANSWER) return steps[i];
            boolean isNarrow = i < head && Math.floorMod(steps[i] - tonic, 7) == 4;
            return steps[i] + (isNarrow ? 3 : 4);
        }

        int formedTicks(int form, int i) {
            if (!has(i)) return 0;
            if (form == BACKWARDS) return ticks[count - 1 - i];
            return form == LONG ? 2 * ticks[i] : ticks[i];
        }
    }

    /** What stands of one ENTRY. */
    private static final class Entry {
        int line;
        int form;
        int move;
        int start;
        int voice;

        void be(int itsLine, int itsForm, int itsMove, int itsStart, int itsVoice) {
            line = itsLine;
            form = itsForm;
            move = itsMove;
            start = itsStart;
            voice = itsVoice;
        }

        void copyFrom(Entry other) {
            be(other.line, other.form, other.move, other.start, other.voice);
        }
    }

    /** ENTRIES as they come. */
    private static final class Entries {
        final Entry[] items = new Entry[MOST_ENTRIES];
        int count;

        Entries() {
            for (int e = 0; e < MOST_ENTRIES; e++) items[e] = new Entry();
        }

        void copyFrom(Entries other) {
            for (int e = 0; e < MOST_ENTRIES; e++) items[e].copyFrom(other.items[e]);
            count = other.count;
        }

        boolean has(int e) {
            return e >= 0 && e < count && count <= MOST_ENTRIES;
        }

        boolean isFull() {
            return count >= MOST_ENTRIES;
        }

        int having(int l) {
            int number = 0;
            for (int e = 0; e < count; e++) {
                if (items[e].line == l) number++;
            }
            return number;
        }

        void append(int line, int form, int move, int start, int voice) {
            if (isFull()) return;
            items[count].be(line, form, move, start, voice);
            count++;
        }

        void remove(int e) {
            if (!has(e)) return;
            for (int g = e + 1; g < count; g++) items[g - 1].copyFrom(items[g]);
            count--;
        }
    }

    /** All that a STATE holds. What changes it answers as the calls do: below 0 nothing was done. */
    private static final class Plan {
        final Line[] lines = new Line[LINES];
        final Entries entries = new Entries();
        final int[] toVisit = new int[MOST_VISITS];
        int visitCount;
        int head = 3;
        int tonic;
        int meter = 4;
        int home;

        Plan() {
            for (int l = 0; l < LINES; l++) lines[l] = new Line();
        }

        void copyFrom(Plan other) {
            for (int l = 0; l < LINES; l++) lines[l].copyFrom(other.lines[l]);
            entries.copyFrom(other.entries);
            for (int i = 0; i < MOST_VISITS; i++) toVisit[i] = other.toVisit[i];
            visitCount = other.visitCount;
            head = other.head;
            tonic = other.tonic;
            meter = other.meter;
            home = other.home;
        }

        int addNote(int l, int step, int ticks) {
            if (!isLine(l) || !within(step, 0, MOST_STEP) || !within(ticks, 1, MOST_TICKS)) return BAD;
            if (entries.having(l) > 0) return NO;
            if (lines[l].isFull()) return FULL;
            lines[l].append(step, ticks);
            return lines[l].count - 1;
        }

        int dropNote(int l, int i) {
            if (!isLine(l) || !lines[l].has(i)) return BAD;
            if (entries.having(l) > 0) return NO;
            lines[l].remove(i);
            return lines[l].count;
        }

        int emptyLine(int l) {
            if (!isLine(l)) return BAD;
            if (entries.having(l) > 0) return NO;
            int had = lines[l].count;
            lines[l].count = 0;
            return had;
        }

        int drawLine(int l, int seed, int n) {
            if (!isLine(l) || !within(seed, 0, MOST_SEED) || !within(n, 1, MOST_NOTES)) return BAD;
            if (entries.having(l) > 0) return NO;
            Line line = lines[l];
            line.count = 0;
            long x = seed;
            int step = FIRST_DRAWN_STEP;
            for (int i = 0; i < n; i++) {
                x = (x * 1103515245L + 12345L) % 2147483648L;
                int leap = (int) (x / 65536 % 7) - 3;
                if (i > 0) step = Math.max(0, Math.min(MOST_STEP, step + leap));
                line.append(step, (int) (x / 1024 % 4) + 1);
            }
            return line.length();
        }

        int setValue(int what, int v) {
            if (what == HEAD && within(v, 0, 10)) {
                int was = head;
                head = v;
                return was;
            }
            if (what == TONIC && within(v, 0, 6)) {
                int was = tonic;
                tonic = v;
                return was;
            }
            if (what == METER && within(v, 1, 8)) {
                int was = meter;
                meter = v;
                return was;
            }
            if (what == HOME && isKey(v)) {
                int was = home;
                home = v;
                return was;
            }
            return BAD;
        }

        int addEntry(int l, int f, int m, int s, int v) {
            if (!isFormed(l, f, m) || !within(s, 0, MOST_START) || !within(v, 0, VOICES - 1)) return BAD;
            if (lines[l].isEmpty() || !isFree(v, s, s + lengthOf(l, f))) return NO;
            if (entries.isFull()) return FULL;
            entries.append(l, f, m, s, v);
            return entries.count - 1;
        }

        int removeEntry(int e) {
            if (!entries.has(e)) return BAD;
            entries.remove(e);
            return entries.count;
        }

        int addVisit(int k) {
            if (!isKey(k)) return BAD;
            if (visitOf(k) != NONE) return NO;
            if (visitCount >= MOST_VISITS) return FULL;
            toVisit[visitCount] = k;
            visitCount++;
            return visitCount;
        }

        int removeVisit(int k) {
            if (!isKey(k)) return BAD;
            int place = visitOf(k);
            if (place == NONE) return NO;
            for (int i = place + 1; i < visitCount; i++) toVisit[i - 1] = toVisit[i];
            visitCount--;
            return visitCount;
        }

        int visitOf(int k) {
            for (int i = 0; i < visitCount; i++) {
                if (toVisit[i] == k) return i;
            }
            return NONE;
        }

        int lengthOf(int l, int f) {
            if (!isLine(l)) return 0;
            return f == LONG ? 2 * lines[l].length() : lines[l].length();
        }

        /** Whether a VOICE is silent from a TICK on to the one ahead of the end. */
        boolean isFree(int v, int from, int end) {
            for (int e = 0; e < entries.count; e++) {
                Entry entry = entries.items[e];
                int entryEnd = entry.start + lengthOf(entry.line, entry.form);
                if (entry.voice == v && from < entryEnd && entry.start < end) return false;
            }
            return true;
        }

        void form(Sound sound, int l, int f, int m) {
            sound.length = 0;
            if (!isLine(l)) return;
            Line line = lines[l];
            for (int i = 0; i < line.count; i++) {
                sound.append(line.formedStep(f, i, head, tonic) + m, line.formedTicks(f, i));
            }
        }
    }

    /** The STATES to go back to, in a ring, so that the oldest is lost by writing over it. */
    private static final class History {
        final Plan[] kept = new Plan[MOST_STATES];
        int newest;
        int count;

        History() {
            for (int i = 0; i < MOST_STATES; i++) kept[i] = new Plan();
        }

        void keep(Plan plan) {
            newest = (newest + 1) % MOST_STATES;
            kept[newest].copyFrom(plan);
            if (count < MOST_STATES) count++;
        }

        boolean giveBack(Plan plan) {
            if (count <= 0) return false;
            plan.copyFrom(kept[newest]);
            newest = (newest + MOST_STATES - 1) % MOST_STATES;
            count--;
            return true;
        }
    }

    /** A SOUND, its STEPS told TICK by TICK from its start on. */
    private static final class Sound {
        final int[] steps = new int[MOST_SOUNDING];
        int length;
        int start;
        int voice;

        void append(int step, int ticks) {
            for (int t = 0; t < ticks && length < MOST_SOUNDING; t++) {
                steps[length] = step;
                length++;
            }
        }

        void place(int itsStart, int itsVoice) {
            start = itsStart;
            voice = itsVoice;
        }

        int end() {
            return start + length;
        }

        boolean isHeardAt(int t) {
            return t >= start && t - start < length && start >= 0;
        }

        int stepAt(int t) {
            return isHeardAt(t) ? steps[t - start] : SILENT;
        }
    }

    /** FAULTS, counted kind by kind. */
    private static final class Faults {
        int clashes;
        int crossings;
        int parallels;

        void forget() {
            clashes = 0;
            crossings = 0;
            parallels = 0;
        }

        /** Of a kind; of all three together for any other number. */
        int number(int kind) {
            if (kind == CLASH) return clashes;
            if (kind == PARALLEL) return parallels;
            if (kind == KINDS) return clashes + crossings + parallels;
            return crossings;
        }

        void addPair(Sound a, Sound b, int meter) {
            int end = Math.min(a.end(), b.end());
            for (int t = Math.max(a.start, b.start); t < end; t++) {
                int kinds = kindsAt(a, b, t, meter);
                clashes += kinds & 1;
                crossings += kinds >> 1 & 1;
                parallels += kinds >> 2 & 1;
            }
        }

        /** The kinds (bits) of the FAULTS of two SOUNDS at a TICK; none if they are of one VOICE. */
        static int kindsAt(Sound a, Sound b, int t, int meter) {
            if (a.voice == b.voice || !a.isHeardAt(t) || !b.isHeardAt(t)) return 0;
            Sound high = a.voice < b.voice ? a : b;
            Sound low = a.voice < b.voice ? b : a;
            int above = high.stepAt(t);
            int below = low.stepAt(t);
            int kinds = above < below ? 2 : 0;
            if (meter > 0 && t % meter == 0 && isHarsh(above, below)) kinds |= 1;
            if (high.isHeardAt(t - 1) && low.isHeardAt(t - 1)) {
                if (isParallel(above, below, high.stepAt(t - 1), low.stepAt(t - 1))) kinds |= 4;
            }
            return kinds;
        }

        static boolean isHarsh(int above, int below) {
            int its = Math.floorMod(above - below, 7);
            return its == 1 || its == 3 || its == 6;
        }

        static boolean isParallel(int above, int below, int aboveAhead, int belowAhead) {
            boolean bothUp = above > aboveAhead && below > belowAhead;
            boolean bothDown = above < aboveAhead && below < belowAhead;
            int its = Math.floorMod(above - below, 7);
            return (bothUp || bothDown) && (its == 0 || its == 4)
                    && Math.floorMod(aboveAhead - belowAhead, 7) == its;
        }
    }

    /** The SOUNDS of several ENTRIES, to be held against each other. */
    private static final class Chorus {
        final Sound[] items = new Sound[MOST_ENTRIES];
        int count;

        Chorus() {
            for (int e = 0; e < MOST_ENTRIES; e++) items[e] = new Sound();
        }

        void gather(Plan plan, Entries entries) {
            count = Math.min(entries.count, MOST_ENTRIES);
            for (int e = 0; e < count; e++) {
                Entry entry = entries.items[e];
                plan.form(items[e], entry.line, entry.form, entry.move);
                items[e].place(entry.start, entry.voice);
            }
        }

        int stepOf(int v, int t) {
            for (int e = 0; e < count; e++) {
                if (items[e].voice == v && items[e].isHeardAt(t)) return items[e].stepAt(t);
            }
            return SILENT;
        }

        int end() {
            int end = 0;
            for (int e = 0; e < count; e++) end = Math.max(end, items[e].end());
            return end;
        }

        int mostAtOnce() {
            int end = end();
            int most = 0;
            for (int t = 0; t < end; t++) {
                int heard = 0;
                for (int e = 0; e < count; e++) {
                    if (items[e].isHeardAt(t)) heard++;
                }
                most = Math.max(most, heard);
            }
            return most;
        }

        void countFaults(Faults faults, int meter) {
            faults.forget();
            for (int e = 0; e < count; e++) {
                for (int g = e + 1; g < count; g++) {
                    faults.addPair(items[e], items[g], meter);
                }
            }
        }

        int firstFaultTick(int meter) {
            int end = end();
            for (int t = 0; t < end; t++) {
                if (leastKindAt(t, meter) != NONE) return t;
            }
            return NONE;
        }

        int leastKindAt(int t, int meter) {
            for (int kind = 0; kind < KINDS; kind++) {
                if (firstPairAt(t, kind, meter) != NONE) return kind;
            }
            return NONE;
        }

        /** 10 times the lesser ENTRY, and the other one. */
        int firstPairAt(int t, int kind, int meter) {
            for (int e = 0; e < count; e++) {
                for (int g = e + 1; g < count; g++) {
                    int kinds = Faults.kindsAt(items[e], items[g], t, meter);
                    if ((kinds >> kind & 1) == 1) return 10 * e + g;
                }
            }
            return NONE;
        }
    }

    /** The BEST PATH, found by trying every order of VISITS from the least one on. */
    private static final class Tour {
        final int[] best = new int[MOST_VISITS];
        final int[] tried = new int[MOST_VISITS];
        int length;

        void find(Plan plan) {
            int count = Math.min(plan.visitCount, MOST_VISITS);
            sortVisits(plan.toVisit, count);
            length = FAR;
            boolean more = true;
            for (int n = 0; n < MOST_PATHS && more; n++) {
                int triedLength = lengthFrom(plan.home, count);
                if (triedLength < length) {
                    length = triedLength;
                    for (int i = 0; i < count; i++) best[i] = tried[i];
                }
                more = toNextRow(tried, count);
            }
        }

        private void sortVisits(int[] keys, int count) {
            for (int i = 0; i < count; i++) {
                int j = i;
                while (j > 0 && tried[j - 1] > keys[i]) {
                    tried[j] = tried[j - 1];
                    j--;
                }
                tried[j] = keys[i];
            }
        }

        private int lengthFrom(int home, int count) {
            int sum = 0;
            int here = home;
            for (int i = 0; i < count; i++) {
                sum += wayBetween(here, tried[i]);
                here = tried[i];
            }
            return sum + wayBetween(here, home);
        }
    }

    /** THE TEXT, and the ORDERS OF WORK that it tells. */
    private static final class Reader {
        final int[] bytes = new int[MOST_BYTES];
        final int[] letters = new int[MOST_BYTES];
        final int[] starts = new int[MOST_BYTES];
        final int[] numbers = new int[MOST_BYTES];
        int length;
        int orders;
        int numberCount;
        int place;
        int fault;

        int append(int c) {
            if (length < MOST_BYTES) {
                bytes[length] = c;
                length++;
            }
            return length;
        }

        int letter(int n) {
            return n >= 0 && n < orders && orders <= MOST_BYTES ? letters[n] : NONE;
        }

        /** Where the numbers of an ORDER begin; those of the one behind the last: where all end. */
        int firstNumber(int n) {
            return n >= 0 && n < orders && orders <= MOST_BYTES ? starts[n] : numberCount;
        }

        int number(int i) {
            return i >= 0 && i < numberCount && numberCount <= MOST_BYTES ? numbers[i] : NONE;
        }

        /** The FAULT of THE TEXT, or NONE. */
        int parse() {
            orders = 0;
            numberCount = 0;
            place = 0;
            fault = NONE;
            skipBlanks();
            if (place >= length) return length;
            for (int n = 0; n < MOST_BYTES && fault == NONE && place < length; n++) {
                parseOrder();
                skipBlanks();
            }
            return fault;
        }

        private void parseOrder() {
            int letter = byteHere();
            if (letter != 'l' && letter != 'e' && letter != 'h' && letter != 't'
                    && letter != 'm' && letter != 'k') {
                fail(place);
                return;
            }
            open(letter);
            place++;
            if (letter == 'l') parseLine();
            else if (letter == 'e') parseEntry();
            else if (letter == 'k') parseKeys();
            else parseNumber(false);
            parseEnd();
        }

        private void open(int letter) {
            if (orders >= MOST_BYTES) return;
            letters[orders] = letter;
            starts[orders] = numberCount;
            orders++;
        }

        private void parseLine() {
            parseNumber(false);
            if (!isNext(':')) return;
            place++;
            parseNote();
            for (int n = 0; n < MOST_BYTES && isNext(','); n++) {
                place++;
                parseNote();
            }
        }

        private void parseNote() {
            parseNumber(false);
            parseNumber(false);
        }

        private void parseEntry() {
            parseNumber(false);
            parseNumber(false);
            parseNumber(true);
            parseNumber(false);
            parseNumber(false);
        }

        private void parseKeys() {
            for (int n = 0; n < MOST_BYTES && isFigureNext(); n++) parseNumber(false);
        }

        private void parseEnd() {
            if (fault != NONE) return;
            if (isNext(';')) place++;
            else fail(place);
        }

        private void parseNumber(boolean mayBeBelowZero) {
            if (fault != NONE) return;
            skipBlanks();
            int first = place;
            boolean belowZero = mayBeBelowZero && byteHere() == '-';
            if (belowZero) place++;
            int figures = 0;
            int value = 0;
            while (place < length && isFigure(byteHere())) {
                if (figures < MOST_FIGURES) value = 10 * value + byteHere() - '0';
                figures++;
                place++;
            }
            if (figures == 0) fail(place);
            else if (figures > MOST_FIGURES) fail(first);
            else take(belowZero ? -value : value);
        }

        private void take(int value) {
            if (numberCount >= MOST_BYTES) return;
            numbers[numberCount] = value;
            numberCount++;
        }

        /** Only the first FAULT counts. */
        private void fail(int where) {
            if (fault == NONE) fault = where;
        }

        private boolean isNext(int c) {
            if (fault != NONE) return false;
            skipBlanks();
            return byteHere() == c;
        }

        private boolean isFigureNext() {
            if (fault != NONE) return false;
            skipBlanks();
            return isFigure(byteHere());
        }

        private void skipBlanks() {
            while (place < length && byteHere() == BLANK) place++;
        }

        private static boolean isFigure(int c) {
            return c >= '0' && c <= '9';
        }

        private int byteHere() {
            return place >= 0 && place < length && length <= MOST_BYTES ? bytes[place] : NONE;
        }
    }
}
