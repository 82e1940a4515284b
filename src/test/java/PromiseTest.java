import java.util.function.ToIntFunction;

/** One method a promise: ordinary inputs, the edges that the document names, wrong inputs; answers worked out by hand. */
public final class PromiseTest extends Checks {
    public static void main(String[] args) {
        promise01NewObject();
        promise02Note();
        promise03Drop();
        promise04Empties();
        promise05Draw();
        promise06Sets();
        promise07NoteOf();
        promise08Line();
        promise09Step();
        promise10Enters();
        promise11Leaves();
        promise12Entry();
        promise13Sounds();
        promise14Faults();
        promise15All();
        promise16First();
        promise17Stretto();
        promise18Strettos();
        promise19Closest();
        promise20Inverted();
        promise21Inversions();
        promise22Order();
        promise23Best();
        promise24Lays();
        promise25Way();
        promise26Next();
        promise27Visits();
        promise28Skips();
        promise29Path();
        promise30Type();
        promise31Clear();
        promise32Reads();
        promise33Back();
        promise34Told();
        promise35Digest();
        end();
    }

    /** A refused call: its answer, one more of its kind, no STATE. */
    private static void refused(FuguePlan x, String call, ToIntFunction<FuguePlan> asked, int want, int kind) {
        int[] before = new int[11];
        for (int i = 0; i < 11; i++) before[i] = x.told(i);
        due(call, asked.applyAsInt(x), want);
        for (int i = 0; i < 11; i++) {
            due(call + ", then told(" + i + ")", x.told(i), before[i] + (i == kind ? 1 : 0));
        }
    }

    private static void bad(FuguePlan x, String call, ToIntFunction<FuguePlan> asked) {
        refused(x, call, asked, FuguePlan.BAD, 0);
    }

    private static void no(FuguePlan x, String call, ToIntFunction<FuguePlan> asked) {
        refused(x, call, asked, FuguePlan.NO, 1);
    }

    private static void full(FuguePlan x, String call, ToIntFunction<FuguePlan> asked) {
        refused(x, call, asked, FuguePlan.FULL, 2);
    }

    /** A call told S: its answer, and that a STATE more can be gone back to, with all as it was; then it is done again. */
    private static void leavesState(FuguePlan x, String call, ToIntFunction<FuguePlan> asked, int want) {
        int states = x.told(10);
        long before = onPaper(x);
        due(call, asked.applyAsInt(x), want);
        due(call + ", then told(10)", x.told(10), Math.min(5, states + 1));
        due(call + ", then back()", x.back(), Math.min(4, states));
        due(call + ", then all is as it was", onPaper(x), before);
        due(call + " again", asked.applyAsInt(x), want);
    }

    /** A number that tells all that a STATE holds. */
    private static long onPaper(FuguePlan x) {
        long h = x.told(4);
        for (int i = 5; i < 10; i++) h = 31 * h + x.told(i);
        for (int l = 0; l < 4; l++) {
            h = 31 * h + x.line(l, 1);
            for (int i = 0; i < x.line(l, 1); i++) h = 31 * (31 * h + x.noteOf(l, i, 0)) + x.noteOf(l, i, 1);
        }
        for (int e = 0; e < x.told(4); e++) {
            for (int what = 0; what < 6; what++) h = 31 * h + x.entry(e, what);
        }
        for (int i = -1; i < x.told(9); i++) h = 31 * h + x.path(i);
        return h;
    }

    private static void promise01NewObject() {
        says("promise 1");
        FuguePlan x = new FuguePlan();
        int[] fresh = {0, 0, 0, 0, 0, 3, 0, 4, 0, 0, 0};
        for (int i = 0; i < 11; i++) due("told(" + i + ")", x.told(i), fresh[i]);
        for (int l = 0; l < 4; l++) due("line(" + l + ", 1)", x.line(l, 1), 0);
        due("path(NONE)", x.path(-1), 0);
        due("back()", x.back(), -3);
        due("NONE", FuguePlan.NONE, -1);
        due("BAD", FuguePlan.BAD, -2);
        due("NO", FuguePlan.NO, -3);
        due("FULL", FuguePlan.FULL, -4);
    }

    private static void promise02Note() {
        says("promise 2");
        FuguePlan x = new FuguePlan();
        leavesState(x, "note(3, 0, 1)", p -> p.note(3, 0, 1), 0);
        leavesState(x, "note(3, 27, 4)", p -> p.note(3, 27, 4), 1);
        due("STEP", x.noteOf(3, 1, 0), 27);
        due("TICKS", x.noteOf(3, 1, 1), 4);
        bad(x, "note(-1, 0, 1)", p -> p.note(-1, 0, 1));
        bad(x, "note(4, 0, 1)", p -> p.note(4, 0, 1));
        bad(x, "note(0, -1, 1)", p -> p.note(0, -1, 1));
        bad(x, "note(0, 28, 1)", p -> p.note(0, 28, 1));
        bad(x, "note(0, 0, 0)", p -> p.note(0, 0, 0));
        bad(x, "note(0, 0, 5)", p -> p.note(0, 0, 5));
        for (int i = 2; i < 10; i++) due("note(3, 5, 1)", x.note(3, 5, 1), i);
        full(x, "an eleventh", p -> p.note(3, 5, 1));
        bad(x, "BAD ahead of FULL", p -> p.note(3, 28, 1));
        due("the last STEP", x.noteOf(3, 9, 0), 5);
        due("the TICK that it sounds from", x.noteOf(3, 9, 2), 12);
        leavesState(x, "the last but one goes of ten", p -> p.drop(3, 8), 9);
        due("the tenth", x.note(3, 5, 1), 9);
        x.enters(3, 0, 0, 0, 0);
        no(x, "NO ahead of FULL", p -> p.note(3, 5, 1));
        bad(x, "BAD ahead of NO", p -> p.note(3, 5, 9));
        due("another LINE", x.note(2, 5, 1), 0);
    }

    private static void promise03Drop() {
        says("promise 3");
        FuguePlan x = withLine(1, 1, 2, 2, 3, 3);
        bad(x, "drop(0, 3)", p -> p.drop(0, 3));
        bad(x, "drop(0, -1)", p -> p.drop(0, -1));
        bad(x, "drop(4, 0)", p -> p.drop(4, 0));
        bad(x, "drop(1, 0)", p -> p.drop(1, 0));
        leavesState(x, "drop(0, 1)", p -> p.drop(0, 1), 2);
        due("the one behind it is nearer", x.noteOf(0, 1, 0), 3);
        due("with its TICKS", x.noteOf(0, 1, 1), 3);
        due("the one ahead stays", x.noteOf(0, 0, 0), 1);
        x.enters(0, 0, 0, 0, 0);
        no(x, "drop(0, 0)", p -> p.drop(0, 0));
        bad(x, "BAD ahead of NO", p -> p.drop(0, 2));
        x.leaves(0);
        due("drop(0, 1)", x.drop(0, 1), 1);
        due("drop(0, 0)", x.drop(0, 0), 0);
        bad(x, "drop(0, 0)", p -> p.drop(0, 0));
    }

    private static void promise04Empties() {
        says("promise 4");
        FuguePlan x = withLine(1, 1, 2, 2);
        bad(x, "empties(-1)", p -> p.empties(-1));
        bad(x, "empties(4)", p -> p.empties(4));
        x.note(1, 9, 3);
        leavesState(x, "empties(0)", p -> p.empties(0), 2);
        due("another LINE stays", x.line(1, 0), 3);
        leavesState(x, "empties(0), nothing changes", p -> p.empties(0), 0);
        due("NOTES", x.line(0, 1), 0);
        x.note(0, 1, 1);
        x.enters(0, 0, 0, 0, 0);
        no(x, "empties(0)", p -> p.empties(0));
        due("empties(1)", x.empties(1), 1);
    }

    private static void promise05Draw() {
        says("promise 5");
        FuguePlan x = withLine(1, 1, 2, 2);
        // X 12345: TICKS 12345 / 1024 = 12, 12 by 4 left over 0, and 1.
        leavesState(x, "draw(0, 0, 1)", p -> p.draw(0, 0, 1), 1);
        due("the first STEP", x.noteOf(0, 0, 0), 14);
        due("NOTES", x.line(0, 1), 1);
        // the next X is 1406932606: by 65536 21468, by 7 left over 6, less 3: 3; by 1024 1373957, by 4 left over 1, and 1
        due("draw(0, 0, 2)", x.draw(0, 0, 2), 3);
        due("the second STEP", x.noteOf(0, 1, 0), 17);
        due("the second TICKS", x.noteOf(0, 1, 1), 2);
        due("draw(1, 999999, 10)", x.draw(1, 999999, 10) == x.line(1, 0) ? 1 : 0, 1);
        due("ten NOTES", x.line(1, 1), 10);
        bad(x, "draw(4, 0, 1)", p -> p.draw(4, 0, 1));
        bad(x, "draw(0, -1, 1)", p -> p.draw(0, -1, 1));
        bad(x, "draw(0, 1000000, 1)", p -> p.draw(0, 1000000, 1));
        bad(x, "draw(0, 0, 0)", p -> p.draw(0, 0, 0));
        bad(x, "draw(0, 0, 11)", p -> p.draw(0, 0, 11));
        x.enters(0, 0, 0, 0, 0);
        no(x, "draw(0, 0, 1)", p -> p.draw(0, 0, 1));
        bad(x, "BAD ahead of NO", p -> p.draw(0, 0, 11));
    }

    private static void promise06Sets() {
        says("promise 6");
        FuguePlan x = new FuguePlan();
        leavesState(x, "sets(0, 10)", p -> p.sets(0, 10), 3);
        leavesState(x, "sets(1, 6)", p -> p.sets(1, 6), 0);
        leavesState(x, "sets(2, 8)", p -> p.sets(2, 8), 4);
        leavesState(x, "sets(3, 23)", p -> p.sets(3, 23), 0);
        due("sets(0, 0)", x.sets(0, 0), 10);
        due("sets(1, 0)", x.sets(1, 0), 6);
        due("sets(2, 1)", x.sets(2, 1), 8);
        due("sets(3, 0)", x.sets(3, 0), 23);
        int[][] refused = {{0, 11}, {0, -1}, {1, 7}, {1, -1}, {2, 0}, {2, 9}, {3, 24}, {3, -1}, {4, 1}, {-1, 1}};
        for (int[] r : refused) bad(x, "sets(" + r[0] + ", " + r[1] + ")", p -> p.sets(r[0], r[1]));
    }

    private static void promise07NoteOf() {
        says("promise 7");
        FuguePlan x = withLine(4, 2, 11, 3, 5, 1, 4, 4);
        due("STEP", x.noteOf(0, 1, 0), 11);
        due("TICKS", x.noteOf(0, 1, 1), 3);
        due("from TICK", x.noteOf(0, 0, 2), 0);
        due("from TICK", x.noteOf(0, 3, 2), 6);
        due("ANSWER of 4 in HEAD", x.noteOf(0, 0, 3), 7);
        due("ANSWER of 11 in HEAD", x.noteOf(0, 1, 3), 14);
        due("ANSWER of 5 in HEAD", x.noteOf(0, 2, 3), 9);
        due("ANSWER of 4 behind HEAD", x.noteOf(0, 3, 3), 8);
        x.sets(1, 1);
        due("ANSWER of 5 by TONIC 1", x.noteOf(0, 2, 3), 8);
        due("ANSWER of 4 by TONIC 1", x.noteOf(0, 0, 3), 8);
        x.sets(1, 6);
        x.note(1, 3, 1);
        due("ANSWER of 3 by TONIC 6: 4 left over", x.noteOf(1, 0, 3), 6);
        bad(x, "noteOf(0, 4, 0)", p -> p.noteOf(0, 4, 0));
        bad(x, "noteOf(0, -1, 0)", p -> p.noteOf(0, -1, 0));
        bad(x, "noteOf(4, 0, 0)", p -> p.noteOf(4, 0, 0));
        bad(x, "noteOf(-1, 0, 0)", p -> p.noteOf(-1, 0, 0));
        bad(x, "noteOf(0, 0, 4)", p -> p.noteOf(0, 0, 4));
        bad(x, "noteOf(0, 0, -1)", p -> p.noteOf(0, 0, -1));
    }

    private static void promise08Line() {
        says("promise 8");
        FuguePlan x = withLine(4, 2, 11, 3, 0, 1);
        int[] want = {6, 3, 0, 11, 0};
        int[] empty = {0, 0, -1, -1, 0};
        for (int what = 0; what < 5; what++) {
            due("line(0, " + what + ")", x.line(0, what), want[what]);
            due("line(1, " + what + ")", x.line(1, what), empty[what]);
        }
        notes(x, 2, 1, 1, 2, 1);
        due("the first is the least", x.line(2, 2), 1);
        notes(x, 3, 2, 1, 1, 1);
        due("the first is the greatest", x.line(3, 3), 2);
        x.enters(0, 0, 0, 0, 0);
        x.enters(0, 1, 0, 6, 0);
        due("ENTRIES have it", x.line(0, 4), 2);
        due("none has the other", x.line(1, 4), 0);
        bad(x, "line(0, 5)", p -> p.line(0, 5));
        bad(x, "line(0, -1)", p -> p.line(0, -1));
        bad(x, "line(4, 0)", p -> p.line(4, 0));
    }

    private static void promise09Step() {
        says("promise 9");
        FuguePlan x = withLine(4, 1, 6, 2, 1, 1);
        int[][] forms = {{4, 6, 6, 1}, {7, 10, 10, 5}, {4, 2, 2, 7}, {1, 6, 6, 4}, {4, 4, 6, 6, 6, 6, 1, 1}};
        for (int f = 0; f < 5; f++) {
            for (int t = 0; t < forms[f].length; t++) {
                due("step(0, " + f + ", 0, " + t + ")", x.step(0, f, 0, t), forms[f][t]);
                due("step(0, " + f + ", -21, " + t + ")", x.step(0, f, -21, t), forms[f][t] - 21);
            }
            due("it sounds no more", x.step(0, f, 21, forms[f].length), -1000);
        }
        due("far behind", x.step(0, 4, 0, Integer.MAX_VALUE), -1000);
        due("an empty LINE", x.step(1, 0, 0, 0), -1000);
        due("a STEP that is no refusal", x.step(0, 0, -6, 0), -2);
        due("BAD not counted for it", x.told(0), 0);
        int[][] refused = {{4, 0, 0, 0}, {-1, 0, 0, 0}, {0, 5, 0, 0}, {0, -1, 0, 0}, {0, 0, 22, 0}, {0, 0, -22, 0}, {0, 0, 0, -1}};
        for (int[] r : refused) refused(x, "step BAD", p -> p.step(r[0], r[1], r[2], r[3]), -2000, 0);
    }

    private static void promise10Enters() {
        says("promise 10");
        FuguePlan x = withLine(4, 2, 6, 2);
        leavesState(x, "enters(0, 0, 0, 10, 1)", p -> p.enters(0, 0, 0, 10, 1), 0);
        no(x, "from the last TICK on", p -> p.enters(0, 0, 0, 13, 1));
        no(x, "to the first TICK", p -> p.enters(0, 0, 0, 7, 1));
        no(x, "LONG, to the first TICK", p -> p.enters(0, 4, 0, 3, 1));
        no(x, "an empty LINE", p -> p.enters(1, 0, 0, 50, 1));
        due("right behind", x.enters(0, 0, 0, 14, 1), 1);
        due("LONG, right ahead", x.enters(0, 4, 0, 2, 1), 2);
        due("another VOICE", x.enters(0, 0, 0, 10, 0), 3);
        due("the edges", x.enters(0, 4, -21, 199, 3), 4);
        due("the edges", x.enters(0, 3, 21, 0, 3), 5);
        for (int e = 6; e < 10; e++) due("enters", x.enters(0, 0, 0, 4 * e, 2), e);
        full(x, "an eleventh", p -> p.enters(0, 0, 0, 100, 2));
        due("the tenth", x.entry(9, 2), 36);
        leavesState(x, "the first goes of ten", p -> p.leaves(0), 9);
        due("the tenth", x.enters(0, 0, 0, 10, 1), 9);
        no(x, "NO ahead of FULL", p -> p.enters(0, 0, 0, 24, 2));
        no(x, "an empty LINE ahead of FULL", p -> p.enters(1, 0, 0, 100, 2));
        int[][] refused = {{4, 0, 0, 0, 2}, {-1, 0, 0, 0, 2}, {0, 5, 0, 0, 2}, {0, -1, 0, 0, 2}, {0, 0, 22, 0, 2},
                {0, 0, -22, 0, 2}, {0, 0, 0, 200, 2}, {0, 0, 0, -1, 2}, {0, 0, 0, 0, 4}, {0, 0, 0, 0, -1}, {1, 0, 0, 0, 4}};
        for (int[] r : refused) bad(withLine(4, 2), "enters BAD", p -> p.enters(r[0], r[1], r[2], r[3], r[4]));
    }

    private static void promise11Leaves() {
        says("promise 11");
        FuguePlan x = withLine(4, 2);
        for (int v = 0; v < 3; v++) x.enters(0, v, v, v, v);
        bad(x, "leaves(3)", p -> p.leaves(3));
        bad(x, "leaves(-1)", p -> p.leaves(-1));
        leavesState(x, "leaves(1)", p -> p.leaves(1), 2);
        due("the one behind is nearer", x.entry(1, 3), 2);
        due("with its FORM", x.entry(1, 1), 2);
        due("its START", x.entry(1, 2), 2);
        due("its MOVE", x.entry(1, 5), 23);
        due("the one ahead stays", x.entry(0, 3), 0);
        due("leaves(0)", x.leaves(0), 1);
        due("leaves(0)", x.leaves(0), 0);
        bad(x, "leaves(0)", p -> p.leaves(0));
        due("the LINE may change", x.note(0, 1, 1), 1);
    }

    private static void promise12Entry() {
        says("promise 12");
        FuguePlan x = withLine(4, 2, 5, 3);
        x.enters(0, 4, -21, 7, 2);
        x.enters(0, 3, 5, 0, 2);
        int[] want = {0, 4, 7, 2, 10, 0};
        int[] other = {0, 3, 0, 2, 5, 26};
        for (int what = 0; what < 6; what++) {
            due("entry(0, " + what + ")", x.entry(0, what), want[what]);
            due("entry(1, " + what + ")", x.entry(1, what), other[what]);
        }
        bad(x, "entry(0, 6)", p -> p.entry(0, 6));
        bad(x, "entry(0, -1)", p -> p.entry(0, -1));
        bad(x, "entry(2, 0)", p -> p.entry(2, 0));
        bad(x, "entry(-1, 0)", p -> p.entry(-1, 0));
    }

    private static void promise13Sounds() {
        says("promise 13");
        FuguePlan x = withLine(4, 2, 5, 3);
        x.enters(0, 1, -10, 7, 2);
        x.enters(0, 0, 0, 12, 2);
        due("ahead", x.sounds(2, 6), -1000);
        due("ANSWER", x.sounds(2, 7), -3);
        due("ANSWER", x.sounds(2, 9), -1);
        due("PLAIN", x.sounds(2, 12), 4);
        due("the last TICK", x.sounds(2, 16), 5);
        due("behind", x.sounds(2, 17), -1000);
        due("far behind", x.sounds(2, Integer.MAX_VALUE), -1000);
        due("another VOICE", x.sounds(1, 7), -1000);
        x.sets(0, 0);
        due("by HEAD as it is now", x.sounds(2, 7), -2);
        due("the uppermost VOICE", x.sounds(0, 0), -1000);
        due("the lowest VOICE", x.sounds(3, 0), -1000);
        due("that is no refusal", x.told(0), 0);
        refused(x, "sounds(4, 0)", p -> p.sounds(4, 0), -2000, 0);
        refused(x, "sounds(-1, 0)", p -> p.sounds(-1, 0), -2000, 0);
        refused(x, "sounds(0, -1)", p -> p.sounds(0, -1), -2000, 0);
    }

    /** Two VOICES with all kinds of FAULTS: ENTRY 0 of VOICE 1: 9 8 10 11, ENTRY 1 of VOICE 0: 10 8 10 14. */
    private static FuguePlan faulty() {
        FuguePlan x = withLine(9, 1, 8, 1, 10, 1, 11, 1);
        notes(x, 1, 10, 1, 8, 1, 10, 1, 14, 1);
        x.enters(0, 0, 0, 4, 1);
        x.enters(1, 0, 0, 4, 0);
        x.enters(0, 0, 0, 8, 1);
        return x;
    }

    private static void promise14Faults() {
        says("promise 14");
        FuguePlan x = faulty();
        // CLASS 1 0 0 3; METER 4 divides TICK 4; from TICK 5 to 6 both rise from 0 to 0.
        due("CLASH", x.faults(0, 1, 0), 1);
        due("CROSSING", x.faults(0, 1, 1), 0);
        due("PARALLEL", x.faults(0, 1, 2), 1);
        due("all three", x.faults(0, 1, 3), 2);
        due("the other way", x.faults(1, 0, 3), 2);
        due("of one VOICE", x.faults(0, 2, 3), 0);
        due("not together", x.faults(1, 2, 3), 0);
        x.sets(2, 1);
        due("each TICK is divided by 1", x.faults(0, 1, 0), 2);
        x.sets(2, 7);
        due("TICK 7 is divided by 7", x.faults(0, 1, 0), 1);
        bad(x, "alike", p -> p.faults(1, 1, 0));
        bad(x, "faults(0, 3, 0)", p -> p.faults(0, 3, 0));
        bad(x, "faults(3, 0, 0)", p -> p.faults(3, 0, 0));
        bad(x, "faults(-1, 0, 0)", p -> p.faults(-1, 0, 0));
        bad(x, "faults(0, 1, 4)", p -> p.faults(0, 1, 4));
        bad(x, "faults(0, 1, -1)", p -> p.faults(0, 1, -1));
        crossedTogether();
        fifthsAndOctaves();
    }

    private static void crossedTogether() {
        FuguePlan x = withLine(10, 1, 8, 1);
        x.enters(0, 0, 0, 0, 3);
        x.enters(0, 0, -1, 0, 2);
        // CLASS of -1 by 7 left over is 6; UPPER is below LOWER: the TICK has two
        due("CLASH", x.faults(0, 1, 0), 1);
        due("CROSSING", x.faults(0, 1, 1), 2);
        due("PARALLEL of 6", x.faults(0, 1, 2), 0);
        due("several at a TICK", x.faults(0, 1, 3), 3);
    }

    private static void fifthsAndOctaves() {
        FuguePlan x = withLine(10, 2, 8, 1, 12, 1);
        x.enters(0, 0, 0, 0, 3);
        x.enters(0, 0, 4, 0, 2);
        x.enters(0, 0, 7, 0, 1);
        x.enters(0, 0, 9, 1, 0);
        due("4 to 4, down and up", x.faults(0, 1, 2), 2);
        due("0 to 0, down and up", x.faults(0, 2, 2), 2);
        due("3 to 3", x.faults(1, 2, 2), 0);
        // VOICE 0 from TICK 1 on: 19 19 17 21; LOWER 10 10 8 12: at TICK 3 17 over 12, at 2 19 over 8
        due("against each other", x.faults(0, 3, 2), 0);
        parallel("up together", new int[] {17, 18}, new int[] {10, 11}, 1);
        parallel("up, 4 and 11", new int[] {14, 22}, new int[] {10, 11}, 1);
        parallel("down, 7 and 0", new int[] {20, 12}, new int[] {13, 12}, 1);
        parallel("one stays, one rises", new int[] {10, 17}, new int[] {3, 3}, 0);
        parallel("one stays, one falls", new int[] {17, 10}, new int[] {3, 3}, 0);
        parallel("one stays, the other falls", new int[] {17, 17}, new int[] {10, 3}, 0);
        parallel("one stays, the other rises", new int[] {17, 17}, new int[] {3, 10}, 0);
        parallel("one rises, one falls", new int[] {14, 20}, new int[] {14, 13}, 0);
        parallel("one falls, one rises", new int[] {20, 14}, new int[] {13, 14}, 0);
        parallel("0, then 4", new int[] {17, 22}, new int[] {10, 11}, 0);
        parallel("both stay", new int[] {17, 17}, new int[] {10, 10}, 0);
    }

    private static void parallel(String how, int[] above, int[] below, int want) {
        FuguePlan x = withLine(above[0], 1, above[1], 1);
        notes(x, 1, below[0], 1, below[1], 1);
        x.enters(0, 0, 0, 1, 1);
        x.enters(1, 0, 0, 1, 2);
        due(how, x.faults(0, 1, 2), want);
        due(how, x.faults(1, 0, 2), want);
        x = withLine(above[1], 1);
        notes(x, 1, below[0], 1, below[1], 1);
        x.enters(0, 0, 0, 2, 1);
        x.enters(1, 0, 0, 1, 2);
        due("one not sounding ahead", x.faults(0, 1, 2), 0);
    }

    private static void promise15All() {
        says("promise 15");
        FuguePlan x = new FuguePlan();
        for (int what = 0; what < 6; what++) due("all(" + what + ") of none", x.all(what), 0);
        x = faulty();
        int[] want = {1, 0, 1, 2, 12, 2};
        for (int what = 0; what < 6; what++) due("all(" + what + ")", x.all(what), want[what]);
        x.enters(1, 0, -7, 4, 3);
        // LOWER 3 1 3 7: with ENTRY 0 CLASS 6 0 0 4, PARALLEL at 6; with ENTRY 1 0 0 0 0, PARALLEL at 5, 6, 7
        int[] more = {2, 0, 5, 7, 12, 3};
        for (int what = 0; what < 6; what++) due("all(" + what + ")", x.all(what), more[what]);
        x.enters(0, 4, 0, 199, 2);
        due("the TICK behind the last", x.all(4), 207);
        x = withLine(9, 1);
        for (int v = 0; v < 4; v++) x.enters(0, 0, 0, 0, v);
        due("all at TICK 0", x.all(5), 4);
        bad(x, "all(6)", p -> p.all(6));
        bad(x, "all(-1)", p -> p.all(-1));
    }

    private static void promise16First() {
        says("promise 16");
        FuguePlan x = faulty();
        due("the TICK", x.first(0), 4);
        due("the kind", x.first(1), 0);
        due("the pair", x.first(2), 1);
        x.sets(2, 8);
        due("the TICK", x.first(0), 6);
        due("the kind", x.first(1), 2);
        due("the pair", x.first(2), 1);
        bad(x, "first(3)", p -> p.first(3));
        bad(x, "first(-1)", p -> p.first(-1));
        x = withLine(10, 4);
        for (int what = 0; what < 3; what++) due("none", x.first(what), -1);
        x.enters(0, 0, 0, 1, 0);
        x.enters(0, 0, 0, 1, 1);
        for (int what = 0; what < 3; what++) due("none", x.first(what), -1);
        x.enters(0, 0, 2, 1, 2);
        x.enters(0, 0, 1, 1, 3);
        // CROSSING at 1: of 0 and 2, 0 and 3, 1 and 2, 1 and 3; no CLASH before TICK 4
        due("the TICK", x.first(0), 1);
        due("the kind", x.first(1), 1);
        due("the pair", x.first(2), 2);
        x.sets(2, 1);
        // now CLASHES at 1: of 0 and 3 (-1), 1 and 3, 2 and 3 (1)
        due("the kind", x.first(1), 0);
        due("the pair", x.first(2), 3);
        x.leaves(0);
        due("the pair", x.first(2), 2);
        x.leaves(0);
        due("the pair", x.first(2), 1);
        x = withLine(10, 1);
        for (int v = 0; v < 4; v++) x.enters(0, 0, v == 3 ? 1 : 0, 0, v);
        // at TICK 0: CLASHES of 0, 1, 2 with 3, MOVED by 1
        due("TICK 0", x.first(0), 0);
        due("the pair", x.first(2), 3);
        x.leaves(3);
        x.leaves(0);
        x.enters(0, 0, 2, 0, 0);
        x.enters(0, 0, 1, 0, 3);
        // ENTRIES by MOVE: 0, 0, 2, 1 in VOICES 1, 2, 0, 3: CLASHES of 0 and 3, 1 and 3, 2 and 3
        x.leaves(0);
        x.enters(0, 0, 7, 0, 1);
        // 0, 2, 1, 7: CLASHES of 0 and 2, 1 and 2, and 3 over 2: 6
        due("the pair", x.first(2), 2);
        x.leaves(0);
        x.enters(0, 0, 8, 0, 2);
        // 2, 1, 7, 8 in VOICES 0, 3, 1, 2
        due("the pair", x.first(2), 1);
        x.leaves(1);
        // 2, 7, 8: 2 over 7 is 2 left over, 2 over 8 is 1, a CLASH; 7 over 8 is 6
        due("the pair", x.first(2), 2);
        x.leaves(0);
        x.enters(0, 0, 9, 0, 0);
        x.enters(0, 0, 13, 0, 3);
        x.leaves(0);
        x.enters(0, 0, 13, 0, 1);
        // 8, 9, 13, 13 in VOICES 2, 0, 3, 1: CLASHES of 9 over 8, of 9 over 13 (3 left over), not of 8 over 13 (2)
        due("the pair", x.first(2), 1);
        x.leaves(0);
        due("the pair", x.first(2), 1);
        x.enters(0, 0, 13, 0, 2);
        x.leaves(0);
        // 13 in three VOICES: none; then 14 over 13
        due("none", x.first(0), -1);
        x.enters(0, 0, 14, 0, 0);
        due("the pair", x.first(2), 3);
        x.leaves(3);
        x.enters(0, 0, 13, 1, 0);
        x.leaves(0);
        x.enters(0, 0, 14, 1, 3);
        // ENTRIES 13, 13 at TICK 0, 13, 14 at TICK 1
        x.sets(2, 1);
        due("the TICK", x.first(0), 1);
        due("the pair", x.first(2), 23);
    }

    private static void promise17Stretto() {
        says("promise 17");
        FuguePlan x = withLine(10, 1, 12, 1, 14, 1, 16, 1, 18, 1);
        // by d 1 PLAIN MOVED 0: UPPER 12 14 16 18 over 10 12 14 16: CLASS 2 always
        int[] want = {0, 0, 0, 1};
        for (int what = 0; what < 4; what++) due("stretto", x.stretto(0, 0, 0, 1, what), want[what]);
        // MOVED 2: CLASS 0, PARALLEL at 2, 3, 4; MOVED 3: CLASS 6 at TICKS 1 to 4, and CROSSING
        int[] parallel = {0, 0, 3, 0};
        int[] clashing = {1, 4, 0, 0};
        int[] crossing = {0, 4, 0, 1};
        for (int what = 0; what < 4; what++) {
            due("PARALLEL", x.stretto(0, 0, 2, 1, what), parallel[what]);
            due("CLASH", x.stretto(0, 0, 3, 1, what), clashing[what]);
            due("CROSSING does not count", x.stretto(0, 0, 4, 1, what), crossing[what]);
        }
        due("the greatest DELAY", x.stretto(0, 0, 21, 4, 3), 0);
        due("LONG", x.stretto(0, 4, 0, 3, 0), 1);
        bad(x, "d 0", p -> p.stretto(0, 0, 0, 0, 0));
        bad(x, "d LENGTH", p -> p.stretto(0, 0, 0, 5, 0));
        bad(x, "m 22", p -> p.stretto(0, 0, 22, 1, 0));
        bad(x, "m -22", p -> p.stretto(0, 0, -22, 1, 0));
        bad(x, "f 5", p -> p.stretto(0, 5, 0, 1, 0));
        bad(x, "f -1", p -> p.stretto(0, -1, 0, 1, 0));
        bad(x, "what 4", p -> p.stretto(0, 0, 0, 1, 4));
        bad(x, "what -1", p -> p.stretto(0, 0, 0, 1, -1));
        bad(x, "an empty LINE", p -> p.stretto(1, 0, 0, 1, 0));
        bad(x, "l 4", p -> p.stretto(4, 0, 0, 1, 0));
    }

    private static void promise18Strettos() {
        says("promise 18");
        FuguePlan x = withLine(10, 1, 12, 1, 14, 1, 16, 1, 18, 1);
        // MOVED 0: d 1 CLASS 2, d 2 CLASS 4 (PARALLEL at 3, 4), d 3 CLASS 6 (CLASH at 4), d 4 CLASS 1 (CLASH at 4)
        due("strettos(0, 0, 0)", x.strettos(0, 0, 0), 2);
        // MOVED 1: d 1 CLASS 1, d 2 CLASS 3, d 3 CLASS 5, d 4 CLASS 0, sounding together once
        due("strettos(0, 0, 1)", x.strettos(0, 0, 1), 24);
        due("an empty LINE", x.strettos(1, 0, 0), 0);
        x.draw(2, 5, 1);
        due("far DELAYS are bits of a long", longLine().strettos(0, 0, 2) >> 32 & 255, 255);
        bad(x, "l 4", p -> (int) p.strettos(4, 0, 0));
        bad(x, "f 5", p -> (int) p.strettos(0, 5, 0));
        bad(x, "m 22", p -> (int) p.strettos(0, 0, 22));
        bad(x, "m -22", p -> (int) p.strettos(0, 0, -22));
    }

    private static FuguePlan longLine() {
        FuguePlan x = new FuguePlan();
        for (int i = 0; i < 10; i++) x.note(0, 10, 4);
        return x;
    }

    private static void promise19Closest() {
        says("promise 19");
        FuguePlan x = new FuguePlan();
        for (int what = 0; what < 3; what++) due("an empty LINE", x.closest(0, what), -1);
        x.note(0, 10, 1);
        for (int what = 0; what < 3; what++) due("of one TICK", x.closest(0, what), -1);
        x = withLine(10, 1, 11, 1);
        x.sets(2, 1);
        // at TICK 1 UPPER 11 over 10: CLASS 1, 2 by MOVE -1
        int[] want = {1, 0, 20};
        for (int what = 0; what < 3; what++) due("closest(0, " + what + ")", x.closest(0, what), want[what]);
        x = withLine(10, 1, 13, 1);
        x.sets(2, 1);
        // CLASS 3, MOVE -1 makes 4, MOVE 1 makes 2
        due("the least MOVE of like size", x.closest(0, 2), 20);
        x = withLine(10, 1, 10, 1, 14, 1, 11, 1, 13, 1);
        x.sets(2, 1);
        long fits = 0;
        for (int f = 0; f < x.closest(0, 1); f++) {
            for (int m = -21; m <= 21; m++) fits |= x.strettos(0, f, m) & 2;
        }
        due("no lesser FORM fits by DELAY 1", fits, 0);
        due("the DELAY", x.closest(0, 0), 1);
        due("it FITS", x.stretto(0, x.closest(0, 1), x.closest(0, 2) - 21, 1, 3), 1);
        int other = 0;
        for (int seed = 0; seed < 40; seed++) other += closestIsTheLeast(seed) ? 1 : 0;
        due("PLAIN is not always the closest", other > 0 ? 1 : 0, 1);
        bad(x, "closest(4, 0)", p -> p.closest(4, 0));
        bad(x, "closest(0, 3)", p -> p.closest(0, 3));
        bad(x, "closest(0, -1)", p -> p.closest(0, -1));
    }

    /** Looks through all STRETTOS; whether the FORM is not PLAIN. */
    private static boolean closestIsTheLeast(int seed) {
        int length = drawn(seed).line(0, 0);
        for (int d = 1; d < length; d++) {
            for (int f = 0; f < 5; f++) {
                FuguePlan x = drawn(seed);
                for (int size = 0; size <= 21; size++) {
                    boolean below = (x.strettos(0, f, -size) >> d & 1) == 1;
                    if (!below && (x.strettos(0, f, size) >> d & 1) == 0) continue;
                    due("DELAY of SEED " + seed, x.closest(0, 0), d);
                    due("FORM of SEED " + seed, x.closest(0, 1), f);
                    due("MOVE of SEED " + seed, x.closest(0, 2), 21 + (below ? -size : size));
                    return f > 0;
                }
            }
        }
        return false;
    }

    private static FuguePlan drawn(int seed) {
        FuguePlan x = new FuguePlan();
        x.draw(0, seed, 10);
        x.sets(2, 1);
        return x;
    }

    private static void promise20Inverted() {
        says("promise 20");
        FuguePlan x = withLine(10, 2, 12, 2);
        notes(x, 1, 8, 2, 10, 3);
        // LINE 1 MOVED by n over LINE 0: n - 2 at 0 to 3; both rise at 2
        int[][] want = {{0, 4, 0, 0}, {1, 4, 0, 0}, {0, 0, 1, 0}, {1, 0, 0, 0}, {0, 0, 0, 1}};
        for (int n = 0; n < 5; n++) {
            for (int what = 0; what < 4; what++) {
                due("inverted(0, 1, " + n + ", " + what + ")", x.inverted(0, 1, n, what), want[n][what]);
            }
        }
        due("an empty LINE", x.inverted(0, 3, 0, 3), 1);
        due("n 20", x.inverted(0, 1, 20, 0), 0);
        bad(x, "n 21", p -> p.inverted(0, 1, 21, 0));
        bad(x, "n -1", p -> p.inverted(0, 1, -1, 0));
        bad(x, "alike", p -> p.inverted(1, 1, 0, 0));
        bad(x, "a 4", p -> p.inverted(4, 1, 0, 0));
        bad(x, "b -1", p -> p.inverted(1, -1, 0, 0));
        bad(x, "what 4", p -> p.inverted(0, 1, 0, 4));
        bad(x, "what -1", p -> p.inverted(0, 1, 0, -1));
    }

    private static void promise21Inversions() {
        says("promise 21");
        FuguePlan x = withLine(10, 2, 12, 2);
        notes(x, 1, 8, 2, 10, 3);
        int want = 0;
        for (int n = 2; n <= 20; n++) {
            int c = (n - 2) % 7;
            if (c == 2 || c == 5) want |= 1 << n;
        }
        due("inversions(0, 1)", x.inversions(0, 1), want);
        due("of an empty LINE", x.inversions(2, 3), 2097151);
        bad(x, "alike", p -> p.inversions(1, 1));
        bad(x, "a 4", p -> p.inversions(4, 1));
        bad(x, "b -1", p -> p.inversions(1, -1));
    }

    private static void promise22Order() {
        says("promise 22");
        FuguePlan x = new FuguePlan();
        no(x, "LINE 0 is empty", p -> p.order(2, 10));
        bad(x, "BAD ahead of NO", p -> p.order(2, 11));
        x.note(0, 10, 4);
        // LINE 0 alone: nothing sounds together
        due("order(2, 1)", x.order(2, 1), 0);
        due("order(4, 3210)", x.order(4, 3210), 0);
        notes(x, 1, 12, 1, 11, 3);
        // ORDER 01: VOICE 0 has LINE 1 (MOVED 0 and 4: 16 15 15 15) from 4 on, VOICE 1 ANSWER of 10 less 7: 7
        // (10 is 3 from TONIC): CLASS 2 1 1 1, CLASH not at 5, 6, 7
        due("order(2, 1)", x.order(2, 1), 0);
        x.sets(2, 5);
        due("TICK 5 is divided by 5", x.order(2, 1), 1);
        x.sets(2, 4);
        // ORDER 10: VOICE 0: 14 over VOICE 1: 12 less 3 is 9, 8 8 8: CLASS 5 6 6 6
        due("order(2, 10)", x.order(2, 10), 0);
        x.sets(2, 1);
        due("order(2, 10) by METER 1", x.order(2, 10), 3);
        int[][] refused = {{1, 0}, {5, 43210}, {2, -1}, {2, 0}, {2, 2}, {2, 12}, {2, 101}, {3, 10}, {3, 112}, {3, 123},
                {3, 1012}, {4, 12}, {4, 3211}, {4, 13210}, {2, Integer.MIN_VALUE}, {4, Integer.MAX_VALUE}};
        for (int[] r : refused) bad(x, "order(" + r[0] + ", " + r[1] + ")", p -> p.order(r[0], r[1]));
    }

    private static void promise23Best() {
        says("promise 23");
        FuguePlan x = new FuguePlan();
        no(x, "LINE 0 is empty", p -> p.best(2, 0));
        bad(x, "BAD ahead of NO", p -> p.best(2, 2));
        x.draw(0, 71, 8);
        due("of like ones the least", x.best(2, 0), 1);
        due("of like ones the least", x.best(3, 0), 12);
        due("of like ones the least", x.best(4, 0), 123);
        due("no FAULTS", x.best(4, 1), 0);
        x.draw(1, 1234, 9);
        bestIsTheLeast(x, 3, 12, 21, 102, 120, 201, 210);
        for (int seed = 0; seed < 60; seed++) {
            x = new FuguePlan();
            x.draw(0, seed, 4);
            x.draw(1, seed + 1000, 10);
            x.sets(2, 1);
            bestIsTheLeast(x, 2, 1, 10);
            bestIsTheLeast(x, 3, 12, 21, 102, 120, 201, 210);
            bestIsTheLeast(x, 4, 123, 132, 213, 231, 312, 321, 1023, 1032, 1203, 1230, 1302, 1320,
                    2013, 2031, 2103, 2130, 2301, 2310, 3012, 3021, 3102, 3120, 3201, 3210);
        }
        bad(x, "v 1", p -> p.best(1, 0));
        bad(x, "v 5", p -> p.best(5, 0));
        bad(x, "what -1", p -> p.best(2, -1));
    }

    private static void bestIsTheLeast(FuguePlan x, int v, int... rows) {
        int least = rows[0];
        for (int row : rows) {
            if (x.order(v, row) < x.order(v, least)) least = row;
        }
        due("best(" + v + ", 0)", x.best(v, 0), least);
        due("best(" + v + ", 1)", x.best(v, 1), x.order(v, least));
    }

    private static void promise24Lays() {
        says("promise 24");
        FuguePlan x = new FuguePlan();
        no(x, "LINE 0 is empty", p -> p.lays(2));
        bad(x, "v 1", p -> p.lays(1));
        bad(x, "v 5", p -> p.lays(5));
        x.draw(0, 71, 8);
        x.note(3, 1, 1);
        x.enters(3, 0, 0, 0, 0);
        leavesState(x, "lays(4) of LINE 0 alone", p -> p.lays(4), 4);
        due("the old one is gone", x.line(3, 4), 0);
        int length = x.line(0, 0);
        for (int k = 0; k < 4; k++) entryIs(x, k, 0, k % 2, k * length, k, 21 - 7 * k);
        x.draw(1, 1234, 9);
        due("lays(3)", x.lays(3), 5);
        int row = x.best(3, 0);
        int[] voices = {row / 100, row / 10 % 10, row % 10};
        for (int k = 0; k < 3; k++) {
            entryIs(x, 2 * k, 0, k % 2, k * length, voices[k], 21 - 7 * voices[k]);
            if (k == 2) break;
            entryIs(x, 2 * k + 1, 1, 0, (k + 1) * length, voices[k], 21 - 7 * voices[k] + (k == 0 ? 4 : 0));
        }
        due("FAULTS as told", x.all(3), x.best(3, 1));
        x.back();
        due("back", x.told(4), 4);
        x.lays(4);
        due("lays(4)", x.told(4), 7);
    }

    private static void entryIs(FuguePlan x, int e, int line, int form, int start, int voice, int move) {
        due("LINE of " + e, x.entry(e, 0), line);
        due("FORM of " + e, x.entry(e, 1), form);
        due("START of " + e, x.entry(e, 2), start);
        due("VOICE of " + e, x.entry(e, 3), voice);
        due("MOVE and 21 of " + e, x.entry(e, 5), move);
    }

    private static void promise25Way() {
        says("promise 25");
        FuguePlan x = new FuguePlan();
        int[][] want = {{0, 0, 0}, {0, 11, 1}, {11, 0, 1}, {23, 12, 1}, {0, 6, 6}, {0, 7, 5}, {0, 12, 1}, {0, 21, 2},
                {21, 0, 2}, {0, 22, 3}, {0, 20, 3}, {0, 19, 4}, {0, 14, 3}, {0, 15, 4}, {5, 14, 2}, {12, 18, 6}, {0, 18, 5}};
        for (int[] w : want) due("way(" + w[0] + ", " + w[1] + ")", x.way(w[0], w[1]), w[2]);
        bad(x, "way(-1, 0)", p -> p.way(-1, 0));
        bad(x, "way(0, 24)", p -> p.way(0, 24));
    }

    private static void promise26Next() {
        says("promise 26");
        FuguePlan x = new FuguePlan();
        // three on in a circle is three by the other circle, too: 12 to 18 is 6 by 13, and by 0, 21; 12 to 17 is 5 by 3, 5
        int[][] want = {{3, 3, -1}, {0, 6, 1}, {0, 7, 11}, {6, 0, 5}, {0, 12, 12}, {0, 21, 21}, {0, 13, 1}, {21, 0, 0},
                {0, 20, 11}, {0, 15, 1}, {12, 18, 0}, {12, 17, 3}, {12, 14, 13}, {23, 0, 11}};
        for (int[] w : want) due("next(" + w[0] + ", " + w[1] + ")", x.next(w[0], w[1]), w[2]);
        bad(x, "next(24, 0)", p -> p.next(24, 0));
        bad(x, "next(0, -1)", p -> p.next(0, -1));
    }

    private static void promise27Visits() {
        says("promise 27");
        FuguePlan x = new FuguePlan();
        leavesState(x, "visits(0), HOME", p -> p.visits(0), 1);
        leavesState(x, "visits(23)", p -> p.visits(23), 2);
        no(x, "it is there", p -> p.visits(23));
        bad(x, "visits(24)", p -> p.visits(24));
        bad(x, "visits(-1)", p -> p.visits(-1));
        for (int k = 3; k <= 5; k++) due("visits", x.visits(k), k);
        full(x, "a sixth", p -> p.visits(6));
        no(x, "NO ahead of FULL", p -> p.visits(5));
        bad(x, "BAD ahead of FULL", p -> p.visits(24));
    }

    private static void promise28Skips() {
        says("promise 28");
        FuguePlan x = new FuguePlan();
        no(x, "it is not there", p -> p.skips(0));
        bad(x, "skips(24)", p -> p.skips(24));
        bad(x, "skips(-1)", p -> p.skips(-1));
        for (int k = 0; k < 5; k++) x.visits(2 * k);
        leavesState(x, "skips(2)", p -> p.skips(2), 4);
        no(x, "it is gone", p -> p.skips(2));
        due("the others stay", x.skips(4), 3);
        due("skips(8)", x.skips(8), 2);
        due("skips(0)", x.skips(0), 1);
        due("the last", x.path(0), 6);
        due("skips(6)", x.skips(6), 0);
    }

    private static void promise29Path() {
        says("promise 29");
        FuguePlan x = new FuguePlan();
        due("no VISITS", x.path(-1), 0);
        due("not so many", x.path(0), -5);
        x.visits(3);
        x.visits(1);
        x.visits(11);
        // round 11 0 1 .. 3 and home: 1 and 4 and 3, as 1 3 11 is 1 2 4 1
        due("the least", x.path(-1), 8);
        due("the least first KEY", x.path(0), 1);
        due("then", x.path(1), 3);
        due("then", x.path(2), 11);
        due("not so many", x.path(3), -5);
        due("not so many", x.path(Integer.MAX_VALUE), -5);
        due("that is no refusal", x.told(0), 0);
        x.sets(3, 12);
        x.visits(12);
        // 3 1 11 by WAYS of 2, 2, 2, 2; 12 is HOME: of 12 3 1 11 and 3 1 11 12 the latter has the lesser first KEY
        due("HOME among VISITS", x.path(-1), 8);
        int[] keys = {3, 1, 11, 12};
        for (int i = 0; i < 4; i++) due("path(" + i + ")", x.path(i), keys[i]);
        refused(x, "path(-2)", p -> p.path(-2), -10, 0);
        refused(x, "path(least)", p -> p.path(Integer.MIN_VALUE), -10, 0);
    }

    private static void promise30Type() {
        says("promise 30");
        FuguePlan x = new FuguePlan();
        due("type(0)", x.type(0), 1);
        due("type(127)", x.type(127), 2);
        bad(x, "type(128)", p -> p.type(128));
        bad(x, "type(-1)", p -> p.type(-1));
        for (int n = 3; n <= 120; n++) due("type(32)", x.type(32), n);
        full(x, "a 121st", p -> p.type(32));
        bad(x, "BAD ahead of FULL", p -> p.type(128));
        due("no STATE", x.told(10), 0);
    }

    private static void promise31Clear() {
        says("promise 31");
        FuguePlan x = new FuguePlan();
        due("an empty one", x.clear(), 0);
        x.type('h');
        x.type('5');
        due("clear()", x.clear(), 2);
        due("told(3)", x.told(3), 0);
        due("no STATE", x.told(10), 0);
        due("nothing is left to read", x.reads(), -10);
        x.type('t');
        due("told(3)", x.told(3), 1);
    }

    private static void promise32Reads() {
        says("promise 32");
        readsAreDone();
        readsFault();
        readsStop();
        readsKeepStates();
    }

    private static void readsAreDone() {
        FuguePlan x = new FuguePlan();
        due("all kinds", reads(x, "l0:14 2 , 16 2;l 1;e0 0-7 8 1;h10;t 6 ; m 1;k 5 17;"), 7);
        due("a NOTE", x.noteOf(0, 1, 0), 16);
        due("MOVE and 21", x.entry(0, 5), 14);
        due("START", x.entry(0, 2), 8);
        int[] told = {0, 0, 0, 51, 1, 10, 6, 1, 0, 2, 1};
        for (int i = 0; i < 11; i++) due("told(" + i + ")", x.told(i), told[i]);
        x = withLine(1, 1, 2, 2);
        x.visits(9);
        x.sets(3, 7);
        due("a LINE of none, VISITS of none", reads(x, " l0 ; k ; "), 2);
        due("it is empty", x.line(0, 1), 0);
        due("there are none", x.told(9), 0);
        due("HOME stays", x.told(8), 7);
        due("the LINE has these alone", reads(x, "l0:1 1;l0:2 2,3 3,4 4;"), 2);
        due("NOTES", x.line(0, 1), 3);
        due("figures ahead that are 0", reads(x, "h007;m008;"), 2);
        due("HEAD", x.told(5), 7);
        due("-0", reads(x, "e 0 0 -0 0 0;"), 1);
        due("MOVE and 21", x.entry(0, 5), 21);
        due("blanks ahead of -", reads(x, "e0 1   -21 190 3;"), 1);
        due("MOVE and 21", x.entry(1, 5), 0);
        due("values from 0 on", reads(x, "h0;h1;t0;t1;m1;m2;k0;"), 7);
        x = new FuguePlan();
        for (int n = 0; n < 12; n++) due("again and again", reads(x, "k 1 2 3 4 5;l2:1 1,2 2,3 3;"), 2);
        due("VISITS are these alone", reads(x, "k 1 2 3 4 5;k 5 6;"), 2);
        due("told(9)", x.told(9), 2);
    }

    private static void readsFault() {
        String[] texts = {"", "  ", "x", "h", "h ", "h1", "h1;x", "h 1 2;", "h-1;", "h1234;", "h 01234", "h1;h 1;  k", "l;", "l0:;",
                "l0:1;", "l0:1 1,;", "l0:1 1 1;", "l0,1 1;", "l0:123;", "l0:1234 1;", "l0:1 1234", "e0 0 -", "e0 0 - 7 0 0;",
                "e0 0 --7 0 0;", "e0 0 -1234 0 0;", "e0 0 -7-8 0;", "e0-1 0 0 0;", "e0 0 1 2;", "e0 0 1 2 3 4;", "e0 0 1234 5 6;", "k -1;",
                "l-1;", "l0:-1 1;", "l0:1-1;", "e-1 0 0 0 0;", "e0 0 0-1 0;", "e0 0 0 0-1;", "t-1;", "m-1;",
                "k 1,2;", "k 5000;", "k1 2", "H1;", "h1;;", "h1:", "\t", "l0:1 1;e0 0 0 0 00000;", "e0 0 -12a", "e0 0 -1234", "h 1a;"};
        int[] faults = {0, 2, 0, 1, 2, 2, 3, 4, 1, 1, 2, 10, 1, 3,
                4, 7, 7, 2, 6, 3, 5, 6, 6,
                6, 5, 7, 2, 8, 11, 5, 2,
                1, 3, 4, 1, 6, 8, 1, 1,
                3, 2, 4, 0, 3, 2, 0, 16, 8, 5, 3};
        for (int i = 0; i < texts.length; i++) {
            FuguePlan x = new FuguePlan();
            due("reads \"" + texts[i] + "\"", reads(x, texts[i]), -10 - faults[i]);
            for (int what = 0; what < 3; what++) due("nothing counts", x.told(what), 0);
            due("THE TEXT stays", x.told(3), texts[i].length());
            due("no STATE", x.told(10), 0);
            due("nothing is done", x.told(5) + x.line(0, 1), 3);
        }
    }

    private static void readsStop() {
        String[] texts = {"l4;", "h11;", "t7;", "m0;", "m9;", "k24;", "k 3 3;", "k 1 2 3 4 5 6;", "e0 0 0 0 0;",
            "l1:28 1;", "l1:0 0;", "l1:0 5;", "l1:1 1,1 1,1 1,1 1,1 1,1 1,1 1,1 1,1 1,1 1,1 1;", "l3;", "l3:1 1;",
            "e3 0 0 1 0;", "e3 5 0 9 0;", "e3 0 22 9 0;", "e3 0 -22 9 0;", "e3 0 0 200 0;", "e3 0 0 9 4;", "e4 0 0 9 0;",
            "l1:1 1;e1 0 0 9 1;l1;"};
        for (String text : texts) {
            FuguePlan x = new FuguePlan();
            x.note(3, 5, 4);
            x.enters(3, 0, 0, 0, 0);
            int done = text.startsWith("l1:1 1;e") ? 2 : 0;
            due("reads \"" + text + "\"", reads(x, text), -1000 - done);
            due("behind another", reads(x, "h1;t2;m3;k9;l2:9 4;" + text), -1005 - done);
            int[] told = {0, 0, 0, 19 + text.length(), 1, 3, 0, 4, 0, 0, 2};
            for (int i = 0; i < 11; i++) due("nothing is done, told(" + i + ")", x.told(i), told[i]);
            due("nothing is done", x.line(2, 1), 0);
        }
        FuguePlan x = new FuguePlan();
        due("a FAULT ahead of what stops", reads(x, "h11;h1"), -16);
        due("eleven ENTRIES", reads(x, "l0:1 1;e0 0 0 0 0;e0 0 0 1 0;e0 0 0 2 0;e0 0 0 3 0;e0 0 0 4 0;e0 0 0 5 0;e0 0 0 6 0;"), 8);
        due("eleven ENTRIES", reads(x, "e0 0 0 7 0;e0 0 0 8 0;e0 0 0 9 0;e0 0 0 10 0;"), -1003);
        due("ten ENTRIES", reads(x, "e0 0 0 7 0;e0 0 0 8 0;e0 0 0 9 0;"), 3);
    }

    private static void readsKeepStates() {
        FuguePlan x = new FuguePlan();
        due("reads", reads(x, "h1;h2;h3;"), 3);
        due("one STATE for all", x.told(10), 1);
        due("back", x.back(), 0);
        due("HEAD", x.told(5), 3);
        due("THE TEXT stays", x.told(3), 9);
        due("again", x.reads(), 3);
    }

    private static void promise33Back() {
        says("promise 33");
        FuguePlan x = new FuguePlan();
        no(x, "none", p -> p.back());
        x.note(0, 5, 1);
        x.visits(4);
        x.sets(3, 9);
        x.sets(2, 7);
        x.enters(0, 0, 0, 0, 0);
        x.type('h');
        x.type(200);
        due("back()", x.back(), 4);
        due("no ENTRY", x.told(4), 0);
        due("back()", x.back(), 3);
        due("METER", x.told(7), 4);
        due("back()", x.back(), 2);
        due("HOME", x.told(8), 0);
        due("back()", x.back(), 1);
        due("VISITS", x.told(9), 0);
        due("back()", x.back(), 0);
        due("NOTES", x.line(0, 1), 0);
        due("THE TEXT is none of it", x.told(3), 1);
        due("refusals are none of it", x.told(0), 1);
        no(x, "none", p -> p.back());
        for (int v = 0; v < 7; v++) x.sets(1, v);
        due("five at most", x.told(10), 5);
        for (int left = 4; left >= 0; left--) due("back()", x.back(), left);
        due("older ones lost", x.told(6), 1);
        no(x, "none", p -> p.back());
        x.sets(0, 9);
        due("new ones come", x.back(), 0);
        due("HEAD", x.told(5), 3);
    }

    private static void promise34Told() {
        says("promise 34");
        FuguePlan x = new FuguePlan();
        bad(x, "told(11)", p -> p.told(11));
        bad(x, "told(-1)", p -> p.told(-1));
        no(x, "back()", p -> p.back());
        x.sets(0, 1);
        x.sets(1, 2);
        x.sets(2, 3);
        x.sets(3, 4);
        x.visits(5);
        x.note(0, 1, 1);
        x.enters(0, 0, 0, 0, 0);
        x.type(32);
        int[] want = {2, 1, 0, 1, 1, 1, 2, 3, 4, 1, 5};
        for (int i = 0; i < 11; i++) due("told(" + i + ")", x.told(i), want[i]);
    }

    private static void promise35Digest() {
        says("promise 35");
        long h = 2267;
        int[] fresh = {0, 0, 0, 0, 0, 3, 0, 4, 0, 0, 0};
        for (int v : fresh) h = 31 * h + v;
        for (int i = 0; i < 8 + 6 + 1; i++) h = 31 * h;
        due("of a new object", new FuguePlan().digest(), h);
        FuguePlan x = withLine(4, 2);
        x.enters(0, 4, 1, 7, 2);
        x.visits(3);
        h = 2267;
        int[] told = {0, 0, 0, 0, 1, 3, 0, 4, 0, 1, 3};
        int[] rest = {2, 1, 4, 2, 0, 7, 0, 0, 0, 0, 0, 0, 0, 4, 7, 2, 4, 22, 0, 0, 0, 0, 11, 1, 6};
        for (int v : told) h = 31 * h + v;
        for (int v : rest) h = 31 * h + v;
        due("of a small plan", x.digest(), h);
        due("it changes nothing", x.digest(), h);
    }
}
