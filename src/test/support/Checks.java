import java.util.ArrayList;
import java.util.List;
import java.util.function.Supplier;

/** What the tests share; a class of tests extends it. */
abstract class Checks {
    static final int LEAST = Integer.MIN_VALUE, GREATEST = Integer.MAX_VALUE;
    static final int NONE = -1, BAD = -2, NO = -3, FULL = -4;

    private static final int MOST_TOLD = 40;

    interface Call {
        long ask(FuguePlan x);
    }

    interface CallOf {
        long ask(FuguePlan x, int... a);
    }

    private static int checks;
    private static int wrong;
    private static String sentence = "";

    /** The words of the document that the checks behind it are about. */
    static void says(String words) {
        sentence = words;
    }

    static void due(String call, long got, long want) {
        checks++;
        if (got != want) tell(call + " answered " + got + ", due is " + want);
    }

    static void due(String what, List<Integer> got, List<Integer> want) {
        checks++;
        if (!got.equals(want)) tell(what + ": " + got + ", due is " + want);
    }

    private static void tell(String what) {
        wrong++;
        if (wrong <= MOST_TOLD) System.out.println("\"" + sentence + "\": " + what);
    }

    static void end() {
        System.out.println(checks + " checks, " + (wrong == 0 ? "all as due" : wrong + " not as due"));
        if (wrong != 0) System.exit(1);
    }

    // ---- what there is to look at

    /** All that a STATE holds. */
    static List<Integer> paper(FuguePlan x) {
        List<Integer> out = new ArrayList<>();
        for (int what = 5; what <= 8; what++) out.add(x.told(what));
        for (int l = 0; l < 4; l++) out.addAll(notesOf(x, l));
        out.add(x.told(4));
        for (int e = 0; e < x.told(4); e++) {
            for (int what : new int[] {0, 1, 2, 3, 5}) out.add(x.entry(e, what));
        }
        int visits = x.told(9);
        out.add(visits);
        for (int i = 0; i < visits; i++) out.add(x.path(i));
        return out;
    }

    /** How many NOTES a LINE has, then STEP and TICKS of each. */
    static List<Integer> notesOf(FuguePlan x, int l) {
        int notes = x.line(l, 1);
        List<Integer> out = new ArrayList<>(List.of(notes));
        for (int i = 0; i < notes; i++) {
            out.add(x.noteOf(l, i, 0));
            out.add(x.noteOf(l, i, 1));
        }
        return out;
    }

    /** How often refused (BAD, NO, FULL), bytes of THE TEXT, STATES. */
    static List<Integer> counts(FuguePlan x) {
        return new ArrayList<>(List.of(x.told(0), x.told(1), x.told(2), x.told(3), x.told(10)));
    }

    // ---- ways to make an object

    static FuguePlan withLine(int... stepsAndTicks) {
        FuguePlan x = new FuguePlan();
        notes(x, 0, stepsAndTicks);
        return x;
    }

    static void notes(FuguePlan x, int l, int... stepsAndTicks) {
        for (int i = 0; i + 1 < stepsAndTicks.length; i += 2) x.note(l, stepsAndTicks[i], stepsAndTicks[i + 1]);
    }

    /** LINE l has ten NOTES of one STEP and one number of TICKS. */
    static void tenNotes(FuguePlan x, int l, int step, int ticks) {
        for (int i = 0; i < 10; i++) x.note(l, step, ticks);
    }

    static FuguePlan typed(FuguePlan x, String text) {
        x.clear();
        for (int i = 0; i < text.length(); i++) x.type(text.charAt(i));
        return x;
    }

    static int reads(FuguePlan x, String text) {
        return typed(x, text).reads();
    }

    // ---- what a call leaves behind: each on objects made for it, so that none is asked too often

    /** A refused call: its answer; how often of its kind is one more, and nothing else changes. */
    static void refused(Supplier<FuguePlan> made, String call, Call asked, long want, int kind) {
        FuguePlan x = made.get();
        FuguePlan twin = made.get();
        due(call, asked.ask(x), want);
        List<Integer> counts = counts(twin);
        counts.set(kind, counts.get(kind) + 1);
        due(call + ", then the counts", counts(x), counts);
        alike(call, x, twin);
        due(call + ", then reads()", x.reads(), twin.reads());
    }

    /** All on paper is alike, and one STATE back, too. */
    private static void alike(String call, FuguePlan x, FuguePlan twin) {
        due(call + ", then all on paper", paper(x), paper(twin));
        if (twin.told(10) == 0) return;
        due(call + ", then back()", x.back(), twin.back());
        due(call + ", then all on paper, one STATE back", paper(x), paper(twin));
    }

    static void bad(Supplier<FuguePlan> made, String call, Call asked) {
        refused(made, call, asked, BAD, 0);
    }

    static void no(Supplier<FuguePlan> made, String call, Call asked) {
        refused(made, call, asked, NO, 1);
    }

    static void full(Supplier<FuguePlan> made, String call, Call asked) {
        refused(made, call, asked, FULL, 2);
    }

    /** A call told S: its answer; a STATE more (of 5 at most), in which all is as it was; nothing is counted. */
    static void leavesState(Supplier<FuguePlan> made, String call, Call asked, long want) {
        FuguePlan x = made.get();
        FuguePlan twin = made.get();
        due(call, asked.ask(x), want);
        List<Integer> counts = counts(twin);
        int states = counts.get(4);
        counts.set(4, Math.min(5, states + 1));
        due(call + ", then the counts", counts(x), counts);
        due(call + ", then back()", x.back(), Math.min(4, states));
        due(call + ", then back(), then all on paper", paper(x), paper(twin));
    }

    /** A call that is neither refused nor told S: its answer; nothing changes on paper, no STATE, nothing is counted. */
    static void answers(Supplier<FuguePlan> made, String call, Call asked, long want) {
        FuguePlan x = made.get();
        FuguePlan twin = made.get();
        due(call, asked.ask(x), want);
        List<Integer> counts = counts(twin);
        counts.set(3, x.told(3));
        due(call + ", then the counts", counts(x), counts);
        alike(call, x, twin);
    }

    /**
     * Each argument alone, the others as in good: its least and its greatest value are not refused, those beyond are BAD.
     * A range of null is left out; one up to GREATEST has no end.
     */
    static void bounds(Supplier<FuguePlan> made, String name, CallOf call, int[] good, int[][] ranges, int bad) {
        for (int i = 0; i < good.length; i++) {
            if (ranges[i] == null) continue;
            int least = ranges[i][0];
            int greatest = ranges[i][1];
            for (int v : new int[] {least, greatest}) notBad(made.get(), name, call, with(good, i, v), bad);
            badWith(made, name, call, with(good, i, least - 1), bad);
            badWith(made, name, call, with(good, i, LEAST), bad);
            if (greatest == GREATEST) continue;
            badWith(made, name, call, with(good, i, greatest + 1), bad);
            badWith(made, name, call, with(good, i, GREATEST), bad);
        }
    }

    static void bounds(Supplier<FuguePlan> made, String name, CallOf call, int[] good, int[][] ranges) {
        bounds(made, name, call, good, ranges, BAD);
    }

    private static void notBad(FuguePlan x, String name, CallOf call, int[] args, int bad) {
        List<Integer> counts = counts(x);
        String told = callOf(name, args);
        due(told + " is BAD", call.ask(x, args) == bad ? 1 : 0, 0);
        due(told + ", then how often BAD", x.told(0), counts.get(0));
    }

    private static void badWith(Supplier<FuguePlan> made, String name, CallOf call, int[] args, int bad) {
        refused(made, callOf(name, args), x -> call.ask(x, args), bad, 0);
    }

    private static int[] with(int[] good, int i, int v) {
        int[] out = good.clone();
        out[i] = v;
        return out;
    }

    static String callOf(String name, int... args) {
        StringBuilder out = new StringBuilder(name).append('(');
        for (int i = 0; i < args.length; i++) out.append(i == 0 ? "" : ", ").append(args[i]);
        return out.append(')').toString();
    }
}
