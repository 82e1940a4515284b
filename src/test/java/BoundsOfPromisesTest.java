import java.util.Arrays;
import java.util.List;
import java.util.function.Supplier;

/** Promises 1 to 29: what they say of boundary cases, sentence by sentence, with the numbers on both sides. */
public final class BoundsOfPromisesTest extends Checks {
    private static final Supplier<FuguePlan> EMPTY = FuguePlan::new;

    public static void main(String[] args) {
        newObject();
        lines();
        entries();
        strettos();
        orders();
        keys();
        end();
    }

    /** Each LINE has three NOTES, none an ENTRY. */
    private static FuguePlan fourLines() {
        FuguePlan x = new FuguePlan();
        for (int l = 0; l < 4; l++) notes(x, l, l, 1, 10 + l, 2, 27 - l, 4);
        return x;
    }

    private static FuguePlan fullLine() {
        FuguePlan x = new FuguePlan();
        for (int i = 0; i < 10; i++) x.note(3, i, 1 + i % 4);
        return x;
    }

    /** LINE 3 is full, and an ENTRY has it. */
    private static FuguePlan usedLine() {
        FuguePlan x = fullLine();
        x.enters(3, 0, 0, 0, 0);
        return x;
    }

    /** LINE 0 of one TICK, ten ENTRIES of it, START 10 times their number, VOICES in turn; the others are empty. */
    private static FuguePlan tenEntries() {
        FuguePlan x = withLine(10, 1);
        for (int e = 0; e < 10; e++) x.enters(0, e % 5, e, 10 * e, e % 4);
        return x;
    }

    // ---- 1

    private static void newObject() {
        says("public static final int NONE = -1, BAD = -2, NO = -3, FULL = -4;");
        due("NONE", FuguePlan.NONE, NONE);
        due("BAD", FuguePlan.BAD, BAD);
        due("NO", FuguePlan.NO, NO);
        due("FULL", FuguePlan.FULL, FULL);
        says("As told; nothing on paper.");
        int[] told = {0, 0, 0, 0, 0, 3, 0, 4, 0, 0, 0};
        for (int what = 0; what <= 10; what++) due("told(" + what + ")", new FuguePlan().told(what), told[what]);
        int[] line = {0, 0, -1, -1, 0};
        for (int l = 0; l < 4; l++) {
            for (int what = 0; what < 5; what++) due(callOf("line", l, what), new FuguePlan().line(l, what), line[what]);
        }
        for (int what = 0; what < 6; what++) due("all(" + what + ")", new FuguePlan().all(what), 0);
        due("path(NONE)", new FuguePlan().path(NONE), 0);
        due("path(0)", new FuguePlan().path(0), -5);
        due("reads()", new FuguePlan().reads(), -10);
        due("clear()", new FuguePlan().clear(), 0);
        due("back()", new FuguePlan().back(), NO);
        FuguePlan other = usedLine();
        other.visits(5);
        other.sets(0, 9);
        due("nothing of another object", paper(new FuguePlan()), List.of(3, 0, 4, 0, 0, 0, 0, 0, 0, 0));
        due("the other keeps its own", other.told(5), 9);
    }

    // ---- 2 to 9

    private static void lines() {
        note();
        drop();
        empties();
        draw();
        sets();
        noteOf();
        line();
        step();
    }

    private static void note() {
        says("A NOTE: its number. S. BAD; NO: an ENTRY has the LINE; FULL: 10.");
        bounds(EMPTY, "note", (x, a) -> x.note(a[0], a[1], a[2]), new int[] {1, 5, 2}, new int[][] {{0, 3}, {0, 27}, {1, 4}});
        FuguePlan x = new FuguePlan();
        for (int i = 0; i < 10; i++) due("number", x.note(2, 27 - i, 1), i);
        due("an eleventh", x.note(2, 5, 1), FULL);
        due("the first of another LINE", x.note(1, 5, 1), 0);
        leavesState(EMPTY, "the first", p -> p.note(3, 0, 1), 0);
        leavesState(() -> without(9), "the tenth", p -> p.note(3, 27, 4), 9);
        full(BoundsOfPromisesTest::fullLine, "the eleventh", p -> p.note(3, 27, 4));
        bad(BoundsOfPromisesTest::fullLine, "BAD ahead of FULL", p -> p.note(3, 28, 4));
        no(BoundsOfPromisesTest::usedLine, "NO ahead of FULL", p -> p.note(3, 0, 1));
        bad(BoundsOfPromisesTest::usedLine, "BAD ahead of NO", p -> p.note(3, 0, 5));
        leavesState(BoundsOfPromisesTest::usedLine, "a LINE that no ENTRY has", p -> p.note(2, 0, 1), 0);
    }

    /** The full LINE 3 without one NOTE. */
    private static FuguePlan without(int i) {
        FuguePlan x = fullLine();
        x.drop(3, i);
        return x;
    }

    private static void drop() {
        says("A NOTE goes (those behind it are one nearer): how many are left. S. BAD; NO: an ENTRY has the LINE.");
        bounds(BoundsOfPromisesTest::fourLines, "drop", (x, a) -> x.drop(a[0], a[1]), new int[] {1, 0}, new int[][] {{0, 3}, {0, 2}});
        bad(EMPTY, "none is there", p -> p.drop(0, 0));
        bad(() -> without(0), "the tenth of nine", p -> p.drop(3, 9));
        for (int gone : new int[] {0, 4, 9}) {
            leavesState(BoundsOfPromisesTest::fullLine, "drop(3, " + gone + ")", p -> p.drop(3, gone), 9);
            FuguePlan x = without(gone);
            for (int i = 0; i < 9; i++) {
                int was = i < gone ? i : i + 1;
                due("STEP of " + i + " without " + gone, x.noteOf(3, i, 0), was);
                due("TICKS of " + i + " without " + gone, x.noteOf(3, i, 1), 1 + was % 4);
            }
            due("there are nine", x.noteOf(3, 9, 0), BAD);
        }
        leavesState(() -> withLine(4, 4), "the only one", p -> p.drop(0, 0), 0);
        no(BoundsOfPromisesTest::usedLine, "an ENTRY has it", p -> p.drop(3, 9));
        bad(BoundsOfPromisesTest::usedLine, "BAD ahead of NO", p -> p.drop(3, 10));
        bad(BoundsOfPromisesTest::usedLine, "an empty LINE", p -> p.drop(2, 0));
    }

    private static void empties() {
        says("All NOTES of a LINE go: how many there were. S. BAD; NO: an ENTRY has the LINE.");
        bounds(BoundsOfPromisesTest::fourLines, "empties", (x, a) -> x.empties(a[0]), new int[] {1}, new int[][] {{0, 3}});
        leavesState(EMPTY, "an empty LINE", p -> p.empties(0), 0);
        leavesState(() -> withLine(4, 4), "of one", p -> p.empties(0), 1);
        leavesState(BoundsOfPromisesTest::fullLine, "a full LINE", p -> p.empties(3), 10);
        no(BoundsOfPromisesTest::usedLine, "an ENTRY has it", p -> p.empties(3));
        leavesState(BoundsOfPromisesTest::usedLine, "a LINE that no ENTRY has", p -> p.empties(2), 0);
        FuguePlan x = fourLines();
        x.empties(2);
        int[] left = {3, 3, 0, 3};
        for (int l = 0; l < 4; l++) due("NOTES of " + l, x.line(l, 1), left[l]);
        due("the first one again", x.note(2, 9, 1), 0);
        due("its STEP", x.noteOf(2, 0, 0), 9);
    }

    private static void draw() {
        says("A LINE has n (1 .. 10) NOTES alone, drawn: X is SEED (0 .. 999999) at first;");
        bounds(BoundsOfPromisesTest::fourLines, "draw", (x, a) -> x.draw(a[0], a[1], a[2]), new int[] {1, 5, 2},
                new int[][] {{0, 3}, {0, 999999}, {1, 10}});

        says("for each NOTE (the first, too) X becomes X times 1103515245 and 12345, by 2147483648 what is left over:");
        drawn(0, List.of(10, 14, 1, 17, 2, 20, 2, 21, 4, 23, 2, 21, 4, 19, 1, 17, 4, 19, 4, 19, 2), 26);
        drawn(1, List.of(10, 14, 4, 15, 1, 17, 2, 15, 3, 18, 4, 21, 2, 19, 2, 22, 4, 19, 4, 21, 2), 28);
        drawn(999999, List.of(10, 14, 2, 15, 3, 18, 1, 21, 1, 23, 2, 23, 2, 24, 3, 22, 3, 22, 3, 19, 4), 24);
        FuguePlan x = fullLine();
        due("one for ten", x.draw(3, 0, 1), 1);
        due("NOTES alone", notesOf(x, 3), List.of(1, 14, 1));
        due("nine for one", x.draw(3, 0, 9), 24);
        due("NOTES", x.line(3, 1), 9);

        says("STEP is 14 for the first, else that of the one ahead and (X by 65536 (cut), by 7 left over) less 3 (0, if that is below it,"
                + " 27, if above)");
        drawn(21, List.of(10, 14, 4, 11, 1, 8, 1, 8, 3, 6, 1, 4, 1, 5, 1, 2, 4, 3, 3, 0, 3), 22);
        // -1 would come behind the 0, then 1: it is 0, then 2
        drawn(1515, List.of(10, 14, 4, 12, 1, 9, 3, 7, 2, 6, 2, 4, 3, 3, 1, 0, 2, 0, 4, 2, 4), 26);
        drawn(290, List.of(10, 14, 2, 17, 1, 19, 4, 21, 4, 19, 4, 21, 2, 23, 4, 24, 1, 27, 3, 25, 4), 29);
        // 28 would come behind the 25, then 27: it is 27, then 26
        drawn(33, List.of(10, 14, 4, 14, 4, 15, 3, 14, 4, 17, 2, 20, 1, 22, 2, 25, 1, 27, 4, 26, 2), 27);

        says(": LENGTH. S. BAD; NO: an ENTRY has the LINE.");
        leavesState(EMPTY, "draw(3, 0, 1)", p -> p.draw(3, 0, 1), 1);
        leavesState(BoundsOfPromisesTest::fullLine, "draw(3, 999999, 10)", p -> p.draw(3, 999999, 10), 24);
        no(BoundsOfPromisesTest::usedLine, "an ENTRY has it", p -> p.draw(3, 0, 1));
        bad(BoundsOfPromisesTest::usedLine, "BAD ahead of NO", p -> p.draw(3, 0, 11));
        leavesState(BoundsOfPromisesTest::usedLine, "a LINE that no ENTRY has", p -> p.draw(2, 0, 1), 1);
    }

    private static void drawn(int seed, List<Integer> notes, int length) {
        FuguePlan x = new FuguePlan();
        due(callOf("draw", 2, seed, 10), x.draw(2, seed, 10), length);
        due("drawn by SEED " + seed, notesOf(x, 2), notes);
        due("LENGTH by SEED " + seed, x.line(2, 0), length);
    }

    private static void sets() {
        says("HEAD (what 0), TONIC (1), METER (2), HOME (3) becomes v: what it was. S. BAD.");
        int[][] ranges = {{0, 10}, {0, 6}, {1, 8}, {0, 23}};
        int[] first = {3, 0, 4, 0};
        for (int what = 0; what < 4; what++) {
            int its = what;
            bounds(EMPTY, "sets", (x, a) -> x.sets(a[0], a[1]), new int[] {what, 5}, new int[][] {{0, 3}, ranges[what]});
            FuguePlan x = new FuguePlan();
            int was = first[what];
            for (int v = ranges[what][0]; v <= ranges[what][1]; v++) {
                due(callOf("sets", what, v), x.sets(what, v), was);
                due("then told(" + (what + 5) + ")", x.told(what + 5), v);
                was = v;
            }
            leavesState(EMPTY, "the least", p -> p.sets(its, ranges[its][0]), first[what]);
            leavesState(EMPTY, "the greatest", p -> p.sets(its, ranges[its][1]), first[what]);
            leavesState(EMPTY, "what it is", p -> p.sets(its, first[its]), first[what]);
        }
    }

    private static void noteOf() {
        says("Of a NOTE: STEP (0), TICKS (1), the TICK from which on it sounds (2), its STEP by ANSWER (3). BAD.");
        bounds(BoundsOfPromisesTest::fourLines, "noteOf", (x, a) -> x.noteOf(a[0], a[1], a[2]), new int[] {1, 0, 0},
                new int[][] {{0, 3}, {0, 2}, {0, 3}});
        bad(EMPTY, "an empty LINE", p -> p.noteOf(0, 0, 0));
        bad(() -> without(0), "the tenth of nine", p -> p.noteOf(3, 9, 0));
        // TICKS 1 2 3 4 1 2 3 4 1 2
        int[] from = {0, 1, 3, 6, 10, 11, 13, 16, 20, 21};
        for (int i = 0; i < 10; i++) {
            int[] want = {i, 1 + i % 4, from[i], i + 4};
            for (int what = 0; what < 4; what++) due(callOf("noteOf", 3, i, what), fullLine().noteOf(3, i, what), want[what]);
        }
        FuguePlan x = new FuguePlan();
        tenNotes(x, 1, 27, 4);
        due("the last TICK from which one sounds", x.noteOf(1, 9, 2), 36);
        answers(BoundsOfPromisesTest::usedLine, "an ENTRY has it", p -> p.noteOf(3, 9, 0), 9);
    }

    private static void line() {
        says("Of a LINE: LENGTH (0), NOTES (1), the least STEP (2; NONE: empty), the greatest (3; NONE: empty), how many ENTRIES have it"
                + " (4). BAD.");
        bounds(BoundsOfPromisesTest::fourLines, "line", (x, a) -> x.line(a[0], a[1]), new int[] {1, 0}, new int[][] {{0, 3}, {0, 4}});
        lineIs(new FuguePlan(), 0, 0, 0, -1, -1, 0);
        lineIs(withLine(0, 1), 0, 1, 1, 0, 0, 0);
        lineIs(withLine(27, 4), 0, 4, 1, 27, 27, 0);
        lineIs(withLine(5, 1, 0, 2, 27, 3, 6, 1), 0, 7, 4, 0, 27, 0);
        lineIs(withLine(0, 1, 27, 2), 0, 3, 2, 0, 27, 0);
        lineIs(withLine(27, 1, 0, 2), 0, 3, 2, 0, 27, 0);
        lineIs(fullLine(), 3, 23, 10, 0, 9, 0);
        lineIs(usedLine(), 3, 23, 10, 0, 9, 1);
        lineIs(tenEntries(), 0, 1, 1, 10, 10, 10);
        lineIs(tenEntries(), 1, 0, 0, -1, -1, 0);
        FuguePlan x = new FuguePlan();
        tenNotes(x, 3, 5, 4);
        lineIs(x, 3, 40, 10, 5, 5, 0);
        x.empties(3);
        lineIs(x, 3, 0, 0, -1, -1, 0);
    }

    private static void lineIs(FuguePlan x, int l, int... want) {
        for (int what = 0; what < 5; what++) due(callOf("line", l, what), x.line(l, what), want[what]);
    }

    private static void step() {
        says("STEP of a LINE by FORM f, MOVED by m (-21 .. 21), at TICK t; -1000: it sounds no more. BAD: -2000; t below 0, too.");
        bounds(BoundsOfPromisesTest::fourLines, "step", (x, a) -> x.step(a[0], a[1], a[2], a[3]), new int[] {1, 0, 0, 0},
                new int[][] {{0, 3}, {0, 4}, {-21, 21}, {0, GREATEST}}, -2000);
        for (int f = 0; f < 5; f++) {
            int last = f == 4 ? 13 : 6;
            FuguePlan x = fourLines();
            due("the last TICK by FORM " + f, x.step(0, f, 0, last) == -1000 ? 1 : 0, 0);
            due("the TICK behind by FORM " + f, x.step(0, f, 0, last + 1), -1000);
            due("the last TICK of all", x.step(0, f, 0, GREATEST), -1000);
            due("an empty LINE", new FuguePlan().step(0, f, 0, 0), -1000);
            due("that is no refusal", x.told(0), 0);
        }
        FuguePlan x = fourLines();
        due("a STEP of -2 is no refusal", x.step(2, 0, -4, 0), -2);
        due("none was counted", x.told(0), 0);
    }

    // ---- 10 to 16

    private static void entries() {
        enters();
        leaves();
        entry();
        sounds();
        faults();
        all();
        first();
    }

    private static void enters() {
        says("An ENTRY: its number. S. BAD; NO: the LINE is empty, or its VOICE sounds already at one of its TICKS; FULL: 10.");
        bounds(BoundsOfPromisesTest::fourLines, "enters", (x, a) -> x.enters(a[0], a[1], a[2], a[3], a[4]), new int[] {1, 0, 0, 0, 0},
                new int[][] {{0, 3}, {0, 4}, {-21, 21}, {0, 199}, {0, 3}});
        FuguePlan x = withLine(10, 1);
        for (int e = 0; e < 10; e++) due("number", x.enters(0, 0, 0, 20 - 2 * e, 3), e);
        due("an eleventh", x.enters(0, 0, 0, 30, 3), FULL);
        leavesState(BoundsOfPromisesTest::fourLines, "the first", p -> p.enters(3, 4, -21, 199, 3), 0);
        leavesState(() -> left(9), "the tenth", p -> p.enters(0, 0, 21, 0, 3), 9);
        full(BoundsOfPromisesTest::tenEntries, "the eleventh", p -> p.enters(0, 0, 0, 199, 0));
        bad(BoundsOfPromisesTest::tenEntries, "BAD ahead of FULL", p -> p.enters(0, 0, 0, 200, 0));
        no(BoundsOfPromisesTest::tenEntries, "NO ahead of FULL: it sounds", p -> p.enters(0, 0, 0, 0, 0));
        no(BoundsOfPromisesTest::tenEntries, "NO ahead of FULL: the LINE is empty", p -> p.enters(1, 0, 0, 199, 0));
        bad(BoundsOfPromisesTest::tenEntries, "BAD ahead of NO", p -> p.enters(1, 0, 22, 0, 0));
        no(EMPTY, "the LINE is empty", p -> p.enters(0, 0, 0, 0, 0));
        leavesState(() -> withLine(0, 1), "of one TICK", p -> p.enters(0, 0, 0, 0, 0), 0);
    }

    /** The ten ENTRIES without one. */
    private static FuguePlan left(int e) {
        FuguePlan x = tenEntries();
        x.leaves(e);
        return x;
    }

    private static void leaves() {
        says("An ENTRY goes (those behind it are one nearer): how many are left. S. BAD.");
        bounds(() -> left(9), "leaves", (x, a) -> x.leaves(a[0]), new int[] {0}, new int[][] {{0, 8}});
        bounds(BoundsOfPromisesTest::tenEntries, "leaves", (x, a) -> x.leaves(a[0]), new int[] {0}, new int[][] {{0, 9}});
        bad(EMPTY, "none is there", p -> p.leaves(0));
        for (int gone : new int[] {0, 4, 9}) {
            leavesState(BoundsOfPromisesTest::tenEntries, "leaves(" + gone + ")", p -> p.leaves(gone), 9);
            FuguePlan x = left(gone);
            for (int e = 0; e < 9; e++) {
                int was = e < gone ? e : e + 1;
                int[] want = {0, was % 5, 10 * was, was % 4, was % 5 == 4 ? 2 : 1, was + 21};
                for (int what = 0; what < 6; what++) due("without " + gone + ": " + callOf("entry", e, what), x.entry(e, what), want[what]);
            }
            due("there are nine", x.entry(9, 0), BAD);
        }
        leavesState(BoundsOfPromisesTest::usedLine, "the only one", p -> p.leaves(0), 0);
    }

    private static void entry() {
        says("Of an ENTRY: LINE (0), FORM (1), START (2), VOICE (3), how many TICKS it sounds (4), MOVE and 21 (5). BAD.");
        bounds(() -> left(9), "entry", (x, a) -> x.entry(a[0], a[1]), new int[] {0, 0}, new int[][] {{0, 8}, {0, 5}});
        bounds(BoundsOfPromisesTest::tenEntries, "entry", (x, a) -> x.entry(a[0], a[1]), new int[] {0, 0}, new int[][] {{0, 9}, {0, 5}});
        bad(EMPTY, "none is there", p -> p.entry(0, 0));
        FuguePlan x = withLine(0, 1);
        tenNotes(x, 3, 27, 4);
        x.enters(0, 0, -21, 0, 0);
        x.enters(3, 4, 21, 199, 3);
        x.enters(3, 3, 20, 1, 1);
        int[][] want = {{0, 0, 0, 0, 1, 0}, {3, 4, 199, 3, 80, 42}, {3, 3, 1, 1, 40, 41}};
        for (int e = 0; e < 3; e++) {
            for (int what = 0; what < 6; what++) due(callOf("entry", e, what), x.entry(e, what), want[e][what]);
        }
    }

    private static void sounds() {
        says("STEP that a VOICE sounds at a TICK; -1000: none. BAD: -2000; t below 0, too.");
        bounds(BoundsOfPromisesTest::tenEntries, "sounds", (x, a) -> x.sounds(a[0], a[1]), new int[] {1, 0},
                new int[][] {{0, 3}, {0, GREATEST}}, -2000);
        FuguePlan x = withLine(0, 1);
        tenNotes(x, 3, 27, 4);
        x.enters(0, 0, -21, 0, 0);
        x.enters(0, 0, 0, 1, 0);
        x.enters(3, 4, 21, 199, 3);
        int[][] want = {{0, 0, -21}, {0, 1, 0}, {0, 2, -1000}, {3, 198, -1000}, {3, 199, 48}, {3, 278, 48}, {3, 279, -1000},
                {2, 199, -1000}, {3, 0, -1000}, {0, GREATEST, -1000}, {3, GREATEST, -1000}};
        for (int[] w : want) due(callOf("sounds", w[0], w[1]), x.sounds(w[0], w[1]), w[2]);
        due("that is no refusal", x.told(0), 0);
    }

    private static void faults() {
        says("0, if they are of one VOICE. BAD: alike, too.");
        CallOf faults = (x, a) -> x.faults(a[0], a[1], a[2]);
        bounds(() -> left(9), "faults", faults, new int[] {1, 0, 0}, new int[][] {{1, 8}, null, {0, 3}});
        bounds(() -> left(9), "faults", faults, new int[] {0, 1, 0}, new int[][] {null, {1, 8}, null});
        bounds(BoundsOfPromisesTest::tenEntries, "faults", faults, new int[] {1, 2, 0}, new int[][] {{0, 9}, null, null});
        bounds(BoundsOfPromisesTest::tenEntries, "faults", faults, new int[] {2, 1, 0}, new int[][] {null, {0, 9}, null});
        for (int e : new int[] {0, 5, 9}) bad(BoundsOfPromisesTest::tenEntries, "alike", p -> p.faults(e, e, 0));
        bad(EMPTY, "none is there", p -> p.faults(0, 1, 0));
        bad(BoundsOfPromisesTest::usedLine, "one is there", p -> p.faults(0, 1, 0));
        FuguePlan x = withLine(10, 1, 11, 1);
        x.enters(0, 0, 0, 0, 1);
        x.enters(0, 0, 7, 2, 1);
        x.enters(0, 0, 7, 0, 2);
        for (int what = 0; what < 4; what++) due("of one VOICE", x.faults(0, 1, what), 0);
        // 10 11 over 17 18: CROSSING twice, PARALLEL at TICK 1, CLASS 0
        int[] want = {0, 2, 1, 3};
        for (int what = 0; what < 4; what++) {
            due(callOf("faults", 0, 2, what), x.faults(0, 2, what), want[what]);
            due(callOf("faults", 2, 0, what), x.faults(2, 0, what), want[what]);
        }
    }

    private static void all() {
        says("the TICK behind the last that sounds (4; 0: none); the most ENTRIES that sound at one TICK (5). BAD.");
        bounds(BoundsOfPromisesTest::tenEntries, "all", (x, a) -> x.all(a[0]), new int[] {0}, new int[][] {{0, 5}});
        bounds(EMPTY, "all", (x, a) -> x.all(a[0]), new int[] {0}, new int[][] {{0, 5}});
        allIs("none", fourLines(), 0, 0, 0, 0, 0, 0);
        FuguePlan x = withLine(10, 1);
        x.enters(0, 0, 0, 0, 2);
        allIs("one of one TICK", x, 0, 0, 0, 0, 1, 1);
        x.enters(0, 0, 0, 1, 1);
        allIs("one behind the other", x, 0, 0, 0, 0, 2, 1);
        x.enters(0, 4, 0, 0, 3);
        allIs("two at each", x, 0, 0, 0, 0, 2, 2);
        x.enters(0, 0, 0, 0, 0);
        allIs("three at TICK 0", x, 0, 0, 0, 0, 2, 3);
        x.enters(0, 0, 0, 0, 1);
        allIs("four at TICK 0", x, 0, 0, 0, 0, 2, 4);
        x.enters(0, 4, 0, 199, 0);
        allIs("one far behind", x, 0, 0, 0, 0, 201, 4);
        x = new FuguePlan();
        tenNotes(x, 1, 3, 4);
        x.enters(1, 4, 0, 199, 2);
        allIs("the last TICK of all is 278", x, 0, 0, 0, 0, 279, 1);

        says("Of all pairs of ENTRIES together: CLASHES (0), CROSSINGS (1), PARALLELS (2), all three (3);");
        x = withLine(10, 1, 11, 1);
        for (int v = 0; v < 4; v++) x.enters(0, 0, 7 * v, 0, v);
        // six pairs, each CROSSING at 0 and 1, PARALLEL at 1
        allIs("each pair once", x, 0, 12, 6, 18, 2, 4);
        x.enters(0, 0, 1, 2, 3);
        x.enters(0, 0, 0, 2, 0);
        allIs("one more", x, 0, 14, 6, 20, 4, 4);
        x.sets(2, 1);
        allIs("10 over 11, 11 over 12 by METER 1", x, 2, 14, 6, 22, 4, 4);
    }

    private static void allIs(String how, FuguePlan x, int... want) {
        for (int what = 0; what < 6; what++) due(how + ": all(" + what + ")", x.all(what), want[what]);
    }

    private static void first() {
        says("NONE: there is none. BAD.");
        bounds(BoundsOfPromisesTest::tenEntries, "first", (x, a) -> x.first(a[0]), new int[] {0}, new int[][] {{0, 2}});
        bounds(EMPTY, "first", (x, a) -> x.first(a[0]), new int[] {0}, new int[][] {{0, 2}});
        firstIs("no ENTRY", new FuguePlan(), -1, -1, -1);
        firstIs("one ENTRY", usedLine(), -1, -1, -1);
        firstIs("none together", tenEntries(), -1, -1, -1);

        says("the least TICK of any (what 0), the least kind of those at it (1), 10 times the lesser ENTRY, and the other one, of the pair of"
                + " that kind at it with the least lesser ENTRY, then the least other one (2).");
        FuguePlan x = withLine(10, 1);
        x.enters(0, 0, 2, 1, 3);
        x.enters(0, 0, 0, 1, 0);
        x.enters(0, 0, 2, 0, 3);
        x.enters(0, 0, 0, 0, 0);
        firstIs("TICK 0 ahead of TICK 1, CROSSING alone", x, 0, 1, 23);
        x.enters(0, 0, 1, 0, 2);
        firstIs("CLASH ahead of CROSSING at one TICK", x, 0, 0, 24);
        x.leaves(4);
        x.leaves(3);
        x.sets(2, 1);
        firstIs("only the one at TICK 1", x, 1, 1, 1);
        x.enters(0, 0, 2, 8, 0);
        x.enters(0, 0, 3, 8, 1);
        firstIs("a CLASH behind does not matter", x, 1, 1, 1);
        firstIs("PARALLEL alone", of(withLine(17, 1, 18, 1), 0, 0, -7), 1, 2, 1);
        firstIs("CROSSING ahead of PARALLEL", of(withLine(10, 1, 18, 1), 0, 7, 0), 0, 1, 1);
        firstIs("the least of 0 1, 0 2, 1 2", of(withLine(10, 1), 0, 1, 2, 3), 0, 0, 1);
        firstIs("0 2 ahead of 1 2, 1 3", of(withLine(10, 1), 0, -2, 1, -3), 0, 0, 2);
        // 8 9 come together, of ten
        x = tenEntries();
        x.leaves(9);
        x.enters(0, 0, 9, 80, 3);
        firstIs("the last two", x, 80, 0, 89);
        x.leaves(8);
        x.enters(0, 0, 1, 0, 3);
        firstIs("the first and the last", x, 0, 0, 9);
    }

    /** ENTRIES of LINE 0 from TICK 0 on, in VOICES 0, 1 and so on, MOVED as told. */
    private static FuguePlan of(FuguePlan x, int... moves) {
        for (int v = 0; v < moves.length; v++) x.enters(0, 0, moves[v], 0, v);
        return x;
    }

    private static void firstIs(String how, FuguePlan x, int... want) {
        for (int what = 0; what < 3; what++) due(how + ": first(" + what + ")", x.first(what), want[what]);
    }

    // ---- 17 to 21

    private static void strettos() {
        stretto();
        strettosOfAll();
        closest();
        inverted();
        inversions();
    }

    private static FuguePlan fortyTicks(int step) {
        FuguePlan x = new FuguePlan();
        tenNotes(x, 0, step, 4);
        return x;
    }

    private static void stretto() {
        says("A STRETTO: CLASHES (0), CROSSINGS (1), PARALLELS (2), whether it FITS (3: 1, 0). BAD: m -21 .. 21, d 1 to LENGTH less 1, too.");
        CallOf stretto = (x, a) -> x.stretto(a[0], a[1], a[2], a[3], a[4]);
        bounds(BoundsOfPromisesTest::fourLines, "stretto", stretto, new int[] {1, 0, 0, 1, 0},
                new int[][] {{0, 3}, {0, 4}, {-21, 21}, {1, 6}, {0, 3}});
        bounds(() -> fortyTicks(5), "stretto", stretto, new int[] {0, 4, 0, 1, 0}, new int[][] {null, null, null, {1, 39}, null});
        bounds(() -> withLine(5, 2), "stretto", stretto, new int[] {0, 4, 0, 1, 0}, new int[][] {null, null, null, {1, 1}, null});
        for (int d : new int[] {0, 1}) {
            bad(() -> withLine(5, 1), "LENGTH 1, d " + d, p -> p.stretto(0, 0, 0, d, 0));
            bad(EMPTY, "LENGTH 0, d " + d, p -> p.stretto(0, 0, 0, d, 0));
        }
        answers(() -> fortyTicks(5), "it FITS", p -> p.stretto(0, 0, 2, 39, 3), 1);
    }

    private static void strettosOfAll() {
        says("All DELAYS (bit d) by which a STRETTO by f, m FITS. BAD: -2 (m -21 .. 21).");
        bounds(BoundsOfPromisesTest::fourLines, "strettos", (x, a) -> x.strettos(a[0], a[1], a[2]), new int[] {1, 0, 0},
                new int[][] {{0, 3}, {0, 4}, {-21, 21}});
        due("LENGTH 0", new FuguePlan().strettos(0, 0, 2), 0);
        due("LENGTH 1", withLine(5, 1).strettos(0, 0, 2), 0);
        due("LENGTH 2", withLine(5, 2).strettos(0, 0, 2), 2);
        due("LENGTH 2, LONG", withLine(5, 2).strettos(0, 4, 2), 2);
        due("LENGTH 3", withLine(5, 3).strettos(0, 0, 2), 6);
        due("LENGTH 32", withLine(5, 4, 5, 4, 5, 4, 5, 4, 5, 4, 5, 4, 5, 4, 5, 4).strettos(0, 0, 2), 0xFFFFFFFEL);
        due("LENGTH 40, all of 1 to 39", fortyTicks(5).strettos(0, 0, 2), 0xFFFFFFFFFEL);
        // MOVED by 1 it is a CLASH at each TICK that 4 divides: of 36 there is one with DELAYS 1 to 36, none with 37 to 39
        due("LENGTH 40, the last three", fortyTicks(5).strettos(0, 0, 1), 0xE000000000L);
        due("MOVED by -21, CLASS 0, no PARALLEL where none moves", fortyTicks(5).strettos(0, 0, -21), 0xFFFFFFFFFEL);
        due("MOVED by 21, CROSSING alone", fortyTicks(5).strettos(0, 0, 21), 0xFFFFFFFFFEL);
        due("MOVED by 20, CLASS 1", fortyTicks(5).strettos(0, 0, 20), 0xE000000000L);
        // 10 12 14 16 18 by METER 1, MOVED by 0: DELAY 1 CLASS 2, 2 CLASS 4 and PARALLEL, 3 CLASS 6, 4 CLASS 1; by 1: 1, 3, 5, 0
        for (int l = 0; l < 4; l++) {
            FuguePlan x = among(l, 10, 12, 14, 16, 18);
            due(callOf("strettos", l, 0, 0), x.strettos(l, 0, 0), 2);
            due(callOf("strettos", l, 0, 1), x.strettos(l, 0, 1), 24);
            for (int d = 1; d <= 4; d++) due(callOf("stretto", l, 0, 0, d, 3), x.stretto(l, 0, 0, d, 3), d == 1 ? 1 : 0);
        }
    }

    private static void closest() {
        says("the least DELAY, then the least FORM, then the least MOVE without sign, then the least MOVE; NONE: none does. BAD.");
        bounds(BoundsOfPromisesTest::fourLines, "closest", (x, a) -> x.closest(a[0], a[1]), new int[] {1, 0}, new int[][] {{0, 3}, {0, 2}});
        bounds(EMPTY, "closest", (x, a) -> x.closest(a[0], a[1]), new int[] {1, 0}, new int[][] {{0, 3}, {0, 2}});
        closestIs("LENGTH 0", new FuguePlan(), 0, -1, -1, -1);
        closestIs("LENGTH 1", withLine(5, 1), 0, -1, -1, -1);
        closestIs("LENGTH 2", withLine(5, 2), 0, 1, 0, 21);
        // 10, 11 by METER 1: UPPER 11 over 10 is CLASS 1; MOVED by -1 it is 2, by 1 it is 0
        closestIs("the least MOVE of like size", metered(withLine(10, 1, 11, 1), 1), 0, 1, 0, 20);
        // 12 over 10 is CLASS 2: MOVED by 0
        closestIs("MOVE 0 ahead of all", metered(withLine(10, 1, 12, 1), 1), 0, 1, 0, 21);
        // 10, 16: CLASS 6; MOVED by -1 it is 0, FITS
        closestIs("size 1", metered(withLine(10, 1, 16, 1), 1), 0, 1, 0, 20);
        // 10, 17, 24 by METER 1: PARALLEL at TICK 2 by CLASS 0; MOVED by -1 CLASS 1, a CLASH, by 1 CLASS 6, a CLASH; by -2 it is 2
        closestIs("size 2", metered(withLine(10, 1, 17, 1, 24, 1), 1), 0, 1, 0, 19);
        // looked for by a program that knows nothing of the class: nine LINES of NOTES of one TICK, by METER 1
        int[][] steps = {{12, 13, 15}, {16, 17, 17}, {11, 14, 11, 11}, {8, 9, 16, 11}, {16, 10, 8, 10}, {15, 8, 14, 12},
                {17, 7, 15, 8}, {12, 15, 12, 14, 11}, {10, 7, 15, 14, 15, 15}};
        int[][] found = {{1, 0, 18}, {1, 0, 24}, {1, 1, 21}, {1, 2, 18}, {1, 3, 19}, {1, 4, 23}, {2, 0, 22}, {2, 4, 19}, {4, 0, 22}};
        for (int n = 0; n < steps.length; n++) {
            for (int l = 0; l < 4; l++) closestIs("of NOTES " + n, among(l, steps[n]), l, found[n]);
        }
    }

    /** A LINE of these STEPS, a TICK each; the other LINES have two TICKS of another STEP; METER 1. */
    private static FuguePlan among(int l, int... steps) {
        FuguePlan x = metered(new FuguePlan(), 1);
        for (int other = 0; other < 4; other++) {
            if (other != l) notes(x, other, 3 * other, 1, 3 * other, 1);
        }
        for (int step : steps) x.note(l, step, 1);
        return x;
    }

    private static FuguePlan metered(FuguePlan x, int meter) {
        x.sets(2, meter);
        return x;
    }

    private static void closestIs(String how, FuguePlan x, int l, int... want) {
        for (int what = 0; what < 3; what++) due(how + ": " + callOf("closest", l, what), x.closest(l, what), want[what]);
        due(how + ": that is no refusal", x.told(0), 0);
    }

    private static FuguePlan twoLines(int a, int b) {
        FuguePlan x = withLine(a, 1);
        notes(x, 1, b, 1);
        return x;
    }

    private static void inverted() {
        says("Two LINES INVERTED at n: CLASHES (0), CROSSINGS (1), PARALLELS (2), whether it is WELL (3). BAD: alike, too.");
        CallOf inverted = (x, a) -> x.inverted(a[0], a[1], a[2], a[3]);
        bounds(BoundsOfPromisesTest::fourLines, "inverted", inverted, new int[] {1, 2, 0, 0}, new int[][] {{0, 3}, null, {0, 20}, {0, 3}});
        bounds(BoundsOfPromisesTest::fourLines, "inverted", inverted, new int[] {2, 1, 0, 0}, new int[][] {null, {0, 3}, null, null});
        for (int l = 0; l < 4; l++) {
            int alike = l;
            bad(BoundsOfPromisesTest::fourLines, "alike", p -> p.inverted(alike, alike, 0, 0));
        }
        answers(EMPTY, "two empty LINES", p -> p.inverted(0, 1, 0, 3), 1);
        answers(() -> withLine(5, 1), "one empty LINE", p -> p.inverted(0, 1, 1, 3), 1);
        invertedIs("b 20 below a, n 20: just no CROSSING", twoLines(20, 0), 20, 0, 0, 0, 1);
        invertedIs("n 19", twoLines(20, 0), 19, 1, 1, 0, 0);
        invertedIs("CROSSING alone", twoLines(10, 0), 3, 0, 1, 0, 0);
        invertedIs("CLASH alone", twoLines(10, 10), 1, 1, 0, 0, 0);
        FuguePlan x = withLine(10, 1, 11, 1);
        notes(x, 1, 10, 1, 11, 1, 0, 4);
        invertedIs("PARALLEL alone, n 0", x, 0, 0, 0, 1, 0);
        invertedIs("no FAULT; behind the shorter LINE there is none", x, 2, 0, 0, 0, 1);
    }

    private static void invertedIs(String how, FuguePlan x, int n, int... want) {
        for (int what = 0; what < 4; what++) due(how + ": " + callOf("inverted", 0, 1, n, what), x.inverted(0, 1, n, what), want[what]);
    }

    private static void inversions() {
        says("All n (bits) at which two LINES INVERTED are WELL. BAD: alike, too.");
        CallOf inversions = (x, a) -> x.inversions(a[0], a[1]);
        bounds(BoundsOfPromisesTest::fourLines, "inversions", inversions, new int[] {1, 2}, new int[][] {{0, 3}, null});
        bounds(BoundsOfPromisesTest::fourLines, "inversions", inversions, new int[] {2, 1}, new int[][] {null, {0, 3}});
        for (int l = 0; l < 4; l++) {
            int alike = l;
            bad(BoundsOfPromisesTest::fourLines, "alike", p -> p.inversions(alike, alike));
        }
        answers(EMPTY, "two empty LINES: all of 0 to 20", p -> p.inversions(3, 0), (1 << 21) - 1);
        due("n 20 alone", twoLines(20, 0).inversions(0, 1), 1 << 20);
        due("none: 20 is too near", twoLines(21, 0).inversions(0, 1), 0);
        due("n 0 is bit 0", twoLines(10, 10).inversions(0, 1), bits(0, 2, 4, 5, 7, 9, 11, 12, 14, 16, 18, 19));
        due("n 20 is bit 20", twoLines(10, 11).inversions(0, 1), bits(1, 3, 4, 6, 8, 10, 11, 13, 15, 17, 18, 20));
        due("the other way round", twoLines(0, 20).inversions(1, 0), 1 << 20);
        for (int a = 0; a < 4; a++) {
            for (int b = 0; b < 4; b++) {
                if (a == b) continue;
                FuguePlan x = new FuguePlan();
                for (int l = 0; l < 4; l++) x.note(l, l == a ? 20 : l == b ? 0 : 10, 1);
                due(callOf("inversions", a, b), x.inversions(a, b), 1 << 20);
                due(callOf("inverted", a, b, 20, 3), x.inverted(a, b, 20, 3), 1);
                due(callOf("inverted", a, b, 19, 1), x.inverted(a, b, 19, 1), 1);
            }
        }
    }

    private static int bits(int... places) {
        int out = 0;
        for (int place : places) out |= 1 << place;
        return out;
    }

    // ---- 22 to 24

    private static final int[][] ROWS = {{1, 10}, {12, 21, 102, 120, 201, 210}, {123, 132, 213, 231, 312, 321, 1023, 1032, 1203, 1230, 1302,
            1320, 2013, 2031, 2103, 2130, 2301, 2310, 3012, 3021, 3102, 3120, 3201, 3210}};

    private static void orders() {
        order();
        best();
        lays();
    }

    private static void order() {
        says("FAULTS of an ORDER of V VOICES. BAD: no ORDER, too; NO: LINE 0 is empty.");
        bounds(() -> withLine(5, 1), "order", (x, a) -> x.order(a[0], a[1]), new int[] {2, 10}, new int[][] {null, {1, 10}});
        for (int v = 2; v <= 4; v++) everyNumber(v);
        int[][] none = {{1, 0}, {1, 1}, {0, 0}, {5, 1234}, {5, 43210}, {LEAST, 10}, {GREATEST, 10}, {2, 100}, {3, 1012}, {4, 10123}, {4, 43210},
                {4, 1234}, {4, GREATEST}, {4, LEAST}, {2, -1}, {2, -10}, {2, 11}, {2, 2}};
        for (int[] n : none) {
            bad(() -> withLine(5, 1), callOf("order", n), p -> p.order(n[0], n[1]));
            bad(EMPTY, "BAD ahead of NO: " + callOf("order", n), p -> p.order(n[0], n[1]));
        }
        for (int v = 2; v <= 4; v++) {
            int[] row = {v, ROWS[v - 2][0]};
            no(EMPTY, "LINE 0 is empty", p -> p.order(row[0], row[1]));
            no(BoundsOfPromisesTest::line1Alone, "LINE 1 alone is not", p -> p.order(row[0], row[1]));
            answers(() -> withLine(5, 1), "LINE 1 is empty", p -> p.order(row[0], row[1]), 0);
        }
    }

    private static FuguePlan line1Alone() {
        FuguePlan x = new FuguePlan();
        x.note(1, 5, 1);
        return x;
    }

    /** Of all numbers of four figures and fewer just those are an ORDER that have each VOICE once. */
    private static void everyNumber(int v) {
        FuguePlan x = new FuguePlan();
        int next = 0;
        for (int n = -1; n <= 10000; n++) {
            if (n % 400 == 0) x = withLine(5, 1);
            if (n == -1) continue;
            boolean isOne = next < ROWS[v - 2].length && ROWS[v - 2][next] == n;
            due(callOf("order", v, n), x.order(v, n), isOne ? 0 : BAD);
            if (isOne) next++;
        }
    }

    private static void best() {
        says("BEST ORDER of V VOICES (what 0), its FAULTS (1). BAD; NO: LINE 0 is empty.");
        bounds(() -> withLine(5, 1), "best", (x, a) -> x.best(a[0], a[1]), new int[] {3, 0}, new int[][] {{2, 4}, {0, 1}});
        for (int v = 2; v <= 4; v++) {
            int its = v;
            no(EMPTY, "LINE 0 is empty", p -> p.best(its, 0));
            no(BoundsOfPromisesTest::line1Alone, "LINE 1 alone is not", p -> p.best(its, 1));
            answers(() -> withLine(5, 1), "all alike: the least number", p -> p.best(its, 0), ROWS[v - 2][0]);
            answers(() -> withLine(5, 1), "all alike: no FAULTS", p -> p.best(its, 1), 0);
        }
        bad(EMPTY, "BAD ahead of NO", p -> p.best(5, 0));
        bad(EMPTY, "BAD ahead of NO", p -> p.best(2, 2));

        says("BEST ORDER: that of the fewest FAULTS, of like ones the least number.");
        // LINE 0 is 10, LINE 1 a STEP s: ORDER 01 has s + 4 over 7, ORDER 10 has 14 over s - 3
        int[][] want = {{10, 1, 0, 0, 0}, {11, 1, 1, 1, 1}, {12, 1, 0, 0, 0}, {13, 10, 0, 1, 0}, {14, 1, 0, 0, 1}, {2, 10, 1, 2, 1},
                {18, 1, 1, 1, 2}};
        for (int[] w : want) {
            FuguePlan x = metered(twoLines(10, w[0]), 1);
            due("best(2, 0) by STEP " + w[0], x.best(2, 0), w[1]);
            due("best(2, 1) by STEP " + w[0], x.best(2, 1), w[2]);
            due("order(2, 1) by STEP " + w[0], x.order(2, 1), w[3]);
            due("order(2, 10) by STEP " + w[0], x.order(2, 10), w[4]);
        }
        everyOrderIsBest();
    }

    /** For each ORDER, from the least to the greatest, SEEDS by which it is the BEST, and its FAULTS: by a program apart from the class. */
    private static void everyOrderIsBest() {
        int[][] seeds = {{0, 6, 1, 9, 5, 14}, {0, 67, 18, 12, 8, 52, 35, 3, 9, 190, 11, 40, 7, 21, 5, 1, 27, 20, 50, 180, 31, 49, 162, 17}};
        int[][] faults = {{9, 7, 6, 12, 1, 7},
                {14, 14, 18, 20, 13, 17, 22, 13, 20, 20, 26, 16, 9, 15, 5, 22, 21, 13, 23, 19, 12, 28, 26, 13}};
        for (int v = 3; v <= 4; v++) {
            for (int n = 0; n < ROWS[v - 2].length; n++) {
                FuguePlan x = metered(new FuguePlan(), 1);
                int seed = seeds[v - 3][n];
                x.draw(0, seed, 3);
                x.draw(1, seed + 1000, 6);
                due("best(" + v + ", 0) by SEED " + seed, x.best(v, 0), ROWS[v - 2][n]);
                due("best(" + v + ", 1) by SEED " + seed, x.best(v, 1), faults[v - 3][n]);
                due(callOf("order", v, ROWS[v - 2][n]), x.order(v, ROWS[v - 2][n]), faults[v - 3][n]);
                x.lays(v);
                due("FAULTS of what is laid", x.all(3), faults[v - 3][n]);
            }
        }
    }

    private static void lays() {
        says("All ENTRIES go; those of the BEST ORDER come, LINE 0 of the first, then LINE 1 behind it, of the second, and so on: how many."
                + " S. BAD; NO: LINE 0 is empty.");
        bounds(() -> withLine(5, 1), "lays", (x, a) -> x.lays(a[0]), new int[] {3}, new int[][] {{2, 4}});
        bounds(() -> twoLines(5, 6), "lays", (x, a) -> x.lays(a[0]), new int[] {3}, new int[][] {{2, 4}});
        for (int v = 2; v <= 4; v++) {
            int its = v;
            no(EMPTY, "LINE 0 is empty", p -> p.lays(its));
            no(BoundsOfPromisesTest::line1Alone, "LINE 1 alone is not", p -> p.lays(its));
            leavesState(() -> withLine(5, 1), "LINE 1 is empty", p -> p.lays(its), v);
            leavesState(() -> twoLines(5, 6), "behind each but the last", p -> p.lays(its), 2 * v - 1);
            leavesState(BoundsOfPromisesTest::tenEntries, "for ten ENTRIES", p -> p.lays(its), v);
        }
        bad(EMPTY, "BAD ahead of NO", p -> p.lays(1));
        bad(EMPTY, "BAD ahead of NO", p -> p.lays(5));
        FuguePlan x = tenEntries();
        x.lays(2);
        laidIs("none of the ten is left", x, new int[][] {{0, 0, 0, 0, 1, 21}, {0, 1, 1, 1, 1, 14}});
        leavesState(() -> laid(withLine(5, 1), 4), "again", p -> p.lays(4), 4);
        // of ORDER 10: LINE 1 of the first VOICE 4 higher, none behind the last
        laidIs("ORDER 10", laid(metered(twoLines(10, 13), 1), 2), new int[][] {{0, 0, 0, 1, 1, 14}, {1, 0, 1, 1, 1, 18}, {0, 1, 1, 0, 1, 21}});
        x = new FuguePlan();
        for (int l = 0; l < 2; l++) tenNotes(x, l, 10 + 2 * l, 4);
        // 4 more over ANSWER: 16 over 7, and so on: CLASSES 2 and 5
        laidIs("the longest", laid(x, 4), new int[][] {{0, 0, 0, 0, 40, 21}, {1, 0, 40, 0, 40, 25}, {0, 1, 40, 1, 40, 14}, {1, 0, 80, 1, 40, 14},
                {0, 0, 80, 2, 40, 7}, {1, 0, 120, 2, 40, 11}, {0, 1, 120, 3, 40, 0}});
        due("the TICK behind the last", x.all(4), 160);
    }

    private static FuguePlan laid(FuguePlan x, int v) {
        x.lays(v);
        return x;
    }

    private static void laidIs(String how, FuguePlan x, int[][] want) {
        due(how + ": told(4)", x.told(4), want.length);
        for (int e = 0; e < want.length; e++) {
            for (int what = 0; what < 6; what++) due(how + ": " + callOf("entry", e, what), x.entry(e, what), want[e][what]);
        }
    }

    // ---- 25 to 29

    private static void keys() {
        way();
        next();
        visits();
        skips();
        path();
    }

    private static void way() {
        says("WAY from a KEY to another one (or itself: 0). BAD.");
        bounds(EMPTY, "way", (x, a) -> x.way(a[0], a[1]), new int[] {5, 5}, new int[][] {{0, 23}, {0, 23}});
        FuguePlan x = new FuguePlan();
        for (int k = 0; k < 24; k++) due(callOf("way", k, k), x.way(k, k), 0);
        answers(EMPTY, "way(0, 23)", p -> p.way(0, 23), 2);
    }

    private static void next() {
        says("The least KEY that is next to KEY a (by a ROAD) on a shortest WAY to b; NONE: a is b. BAD.");
        bounds(EMPTY, "next", (x, a) -> x.next(a[0], a[1]), new int[] {5, 6}, new int[][] {{0, 23}, {0, 23}});
        FuguePlan x = new FuguePlan();
        for (int k = 0; k < 24; k++) due(callOf("next", k, k), x.next(k, k), NONE);
        due("that is no refusal", x.told(0), 0);
        // half round there are two ways: 1 or 11, 10 or 0; 5 or 7
        int[][] want = {{0, 6, 1}, {11, 5, 0}, {6, 0, 5}, {0, 5, 1}, {0, 7, 11}, {11, 0, 0}, {0, 11, 11}, {23, 12, 12}, {12, 23, 23},
                {2, 23, 23}, {23, 2, 2}, {3, 12, 12}, {12, 3, 3}, {11, 12, 0}, {11, 20, 20}, {0, 23, 11}, {23, 0, 11}, {0, 13, 1}, {13, 0, 1}};
        for (int[] w : want) due(callOf("next", w[0], w[1]), x.next(w[0], w[1]), w[2]);
    }

    /** VISITS are these. */
    private static FuguePlan visiting(int... keys) {
        FuguePlan x = new FuguePlan();
        for (int k : keys) x.visits(k);
        return x;
    }

    private static void visits() {
        says("A KEY comes to VISITS: how many there are. S. BAD; NO: it is there; FULL: 5.");
        bounds(EMPTY, "visits", (x, a) -> x.visits(a[0]), new int[] {5}, new int[][] {{0, 23}});
        leavesState(EMPTY, "the first", p -> p.visits(23), 1);
        leavesState(() -> visiting(1, 2, 3, 4), "the fifth", p -> p.visits(0), 5);
        full(() -> visiting(1, 2, 3, 4, 5), "the sixth", p -> p.visits(0));
        no(() -> visiting(1), "it is there", p -> p.visits(1));
        for (int k = 1; k <= 5; k++) {
            int there = k;
            no(() -> visiting(1, 2, 3, 4, 5), "NO ahead of FULL", p -> p.visits(there));
        }
        bad(() -> visiting(1, 2, 3, 4, 5), "BAD ahead of FULL", p -> p.visits(24));
        leavesState(EMPTY, "HOME", p -> p.visits(0), 1);
        FuguePlan x = visiting(1, 2, 3, 4, 5);
        x.skips(3);
        due("a fifth again, the one that went", x.visits(3), 5);
    }

    private static void skips() {
        says("A KEY of VISITS goes: how many are left. S. BAD; NO: it is not there.");
        bounds(EMPTY, "skips", (x, a) -> x.skips(a[0]), new int[] {5}, new int[][] {{0, 23}});
        bounds(() -> visiting(0, 23), "skips", (x, a) -> x.skips(a[0]), new int[] {0}, new int[][] {{0, 23}});
        leavesState(() -> visiting(0), "the only one", p -> p.skips(0), 0);
        no(EMPTY, "none is there", p -> p.skips(0));
        no(() -> visiting(1, 2, 3, 4, 5), "it is not there", p -> p.skips(0));
        no(() -> visiting(1, 2, 3, 4, 5), "it is not there", p -> p.skips(6));
        for (int gone = 1; gone <= 5; gone++) {
            int its = gone;
            leavesState(() -> visiting(1, 2, 3, 4, 5), "one of five", p -> p.skips(its), 4);
            FuguePlan x = visiting(1, 2, 3, 4, 5);
            x.skips(gone);
            for (int k = 1; k <= 5; k++) {
                if (k != gone) due("the others stay: " + k, x.visits(k), NO);
            }
            due("it is gone", x.skips(gone), NO);
        }
    }

    private static void path() {
        says("BEST PATH: the least (i NONE); its i-th KEY of VISITS (0 on); -5: not so many. BAD: -10.");
        bounds(EMPTY, "path", (x, a) -> x.path(a[0]), new int[] {0}, new int[][] {{-1, GREATEST}}, -10);
        bounds(() -> visiting(9, 5, 3, 4, 7), "path", (x, a) -> x.path(a[0]), new int[] {0}, new int[][] {{-1, GREATEST}}, -10);
        int[] keys = {9, 5, 3, 4, 7};
        for (int n = 0; n <= 5; n++) {
            int many = n;
            Supplier<FuguePlan> made = () -> visiting(Arrays.copyOf(keys, many));
            if (n > 0) due("the last of " + n, made.get().path(n - 1) >= 0 ? 1 : 0, 1);
            answers(made, "one more than " + n, p -> p.path(many), -5);
            answers(made, "i 5 of " + n, p -> p.path(5), -5);
            answers(made, "the greatest i", p -> p.path(GREATEST), -5);
        }
        due("of none", new FuguePlan().path(NONE), 0);
        due("of HOME alone", visiting(0).path(NONE), 0);
        due("of HOME alone", visiting(0).path(0), 0);
        // round the circle of MAJORS, either way: 12
        FuguePlan x = visiting(9, 5, 3, 4, 7);
        int[] round = {12, 3, 4, 5, 7, 9};
        for (int i = -1; i < 5; i++) due(callOf("path", i), x.path(i), round[i + 1]);
    }
}
