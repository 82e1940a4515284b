import java.util.Arrays;
import java.util.List;

/** What stands under "Terms" up to VISITS and PATH: its boundary cases, sentence by sentence, with the numbers on both sides. */
public final class BoundsOfTermsTest extends Checks {
    private static final int PLAIN = 0, ANSWER = 1, TURNED = 2, BACK = 3, LONG = 4;

    public static void main(String[] args) {
        calls();
        lines();
        forms();
        soundsTogether();
        clash();
        crossing();
        parallel();
        entries();
        strettos();
        orders();
        keys();
        end();
    }

    // ---- how often

    private static void calls() {
        says("An object is used for at most 512 calls after it has been made; what later calls answer is free.");
        FuguePlan x = new FuguePlan();
        for (int n = 1; n < 512; n++) due("call " + n, x.told(11), BAD);
        due("call 512", x.told(0), 511);
        x = new FuguePlan();
        for (int n = 1; n < 512; n += 2) {
            due("call " + n, x.note(0, n % 28, 1), 0);
            if (n < 511) due("call " + (n + 1), x.drop(0, 0), 0);
        }
        due("call 512", x.back(), 4);
        x = new FuguePlan();
        for (int n = 1; n < 512; n++) due("call " + n, x.sets(3, n % 24), (n - 1) % 24);
        due("call 512", x.told(8), 511 % 24);
        for (int n = 0; n < 3000; n++) ask(x, n % 40, n * 7919 % 131 - 9);
    }

    /** Beyond call 512 the answer is free, but there is one: none throws. */
    private static void ask(FuguePlan x, int which, int a) {
        switch (which) {
            case 0: x.note(a % 5, a, a % 5); break;
            case 1: x.enters(a % 5, a % 6, a, a, a % 5); break;
            case 2: x.draw(a % 5, a, a % 12); break;
            case 3: x.lays(a % 5); break;
            case 4: x.reads(); break;
            case 5: x.visits(a); break;
            case 6: x.back(); break;
            case 7: x.leaves(a % 11); break;
            case 8: x.drop(a % 5, a % 11); break;
            case 9: x.path(a % 7); break;
            case 10: x.first(a % 4); break;
            case 11: x.closest(a % 5, a % 4); break;
            case 12: x.digest(); break;
            default: x.type(a); break;
        }
    }

    // ---- lines

    private static void lines() {
        says("LINES 0 .. 3, empty at first, have NOTES 0 .. 9, as they come: STEP (0 .. 27), TICKS (1 .. 4).");
        for (int l = -1; l <= 4; l++) {
            boolean isOne = l >= 0 && l <= 3;
            due(callOf("line", l, 1), new FuguePlan().line(l, 1), isOne ? 0 : BAD);
            due(callOf("note", l, 0, 1), new FuguePlan().note(l, 0, 1), isOne ? 0 : BAD);
        }
        for (int l = 0; l < 4; l++) {
            FuguePlan x = new FuguePlan();
            for (int i = 0; i < 10; i++) due("the number of a NOTE", x.note(l, 3 * i, 1 + i % 4), i);
            due("there is no NOTE 10", x.note(l, 5, 1), FULL);
            for (int i = 0; i < 10; i++) {
                due("as they come, STEP", x.noteOf(l, i, 0), 3 * i);
                due("as they come, TICKS", x.noteOf(l, i, 1), 1 + i % 4);
            }
            due("there is no NOTE 10", x.noteOf(l, 10, 0), BAD);
            for (int other = 0; other < 4; other++) {
                if (other != l) due("another LINE is empty", x.line(other, 1), 0);
            }
        }
        for (int step = -1; step <= 28; step++) due("STEP " + step, new FuguePlan().note(0, step, 1), step < 0 || step > 27 ? BAD : 0);
        for (int ticks = 0; ticks <= 5; ticks++) due("TICKS " + ticks, new FuguePlan().note(0, 0, ticks), ticks < 1 || ticks > 4 ? BAD : 0);

        says("NOTES sound one behind the other, from TICK 0 on; LENGTH: TICKS of all together.");
        sounding("TICKS 1 4 2", withLine(5, 1, 6, 4, 7, 2), PLAIN, 5, 6, 6, 6, 6, 7, 7);
        sounding("one TICK", withLine(5, 1), PLAIN, 5);
        sounding("no NOTE", new FuguePlan(), PLAIN);
        FuguePlan x = new FuguePlan();
        for (int ticks = 1; ticks <= 4; ticks++) {
            x.empties(0);
            tenNotes(x, 0, 5, ticks);
            due("LENGTH of ten", x.line(0, 0), 10 * ticks);
            due("the last TICK", x.step(0, PLAIN, 0, 10 * ticks - 1), 5);
            due("the TICK behind", x.step(0, PLAIN, 0, 10 * ticks), -1000);
        }
    }

    /** LINE 0 by a FORM has just these STEPS, a TICK each. */
    private static void sounding(String how, FuguePlan x, int form, int... steps) {
        for (int t = 0; t < steps.length; t++) due(how + ", FORM " + form + ", TICK " + t, x.step(0, form, 0, t), steps[t]);
        due(how + ", FORM " + form + ", no more", x.step(0, form, 0, steps.length), -1000);
    }

    // ---- forms

    private static void forms() {
        says("0 PLAIN: as it is. 1 ANSWER: each NOTE is 4 STEPS higher;");
        sounding("from the least to the greatest", withLine(0, 1, 27, 2), PLAIN, 0, 27, 27);
        sounding("from the least to the greatest", withLine(0, 1, 27, 2), ANSWER, 4, 31, 31);
        for (int f : new int[] {-1, 5}) due("FORM " + f, withLine(5, 1).step(0, f, 0, 0), -2000);
        headOfTheAnswer();
        tonicOfTheAnswer();

        says("2 TURNED: STEP p becomes 2 times the first NOTE's STEP, less p.");
        sounding("the first stays", withLine(9, 1), TURNED, 9);
        sounding("from the least on", withLine(0, 1, 27, 1, 1, 1), TURNED, 0, -27, -1);
        sounding("from the greatest on", withLine(27, 2, 0, 1, 26, 1), TURNED, 27, 27, 54, 28);
        sounding("no NOTE", new FuguePlan(), TURNED);

        says("3 BACK: NOTES the other way round.");
        sounding("one NOTE", withLine(9, 2), BACK, 9, 9);
        sounding("the last is the first", withLine(1, 1, 2, 2, 3, 3), BACK, 3, 3, 3, 2, 2, 1);
        sounding("ten", withLine(0, 1, 1, 1, 2, 1, 3, 1, 4, 1, 5, 1, 6, 1, 7, 1, 8, 1, 9, 2), BACK, 9, 9, 8, 7, 6, 5, 4, 3, 2, 1, 0);
        sounding("no NOTE", new FuguePlan(), BACK);

        says("4 LONG: each NOTE has twice its TICKS.");
        sounding("one TICK", withLine(9, 1), LONG, 9, 9);
        sounding("four TICKS", withLine(9, 4, 8, 1), LONG, 9, 9, 9, 9, 9, 9, 9, 9, 8, 8);
        sounding("no NOTE", new FuguePlan(), LONG);
        FuguePlan x = new FuguePlan();
        tenNotes(x, 0, 5, 4);
        due("the longest, TICK 79", x.step(0, LONG, 0, 79), 5);
        due("the longest, TICK 80", x.step(0, LONG, 0, 80), -1000);

        says("MOVED by m: then each STEP is m more. STEPS of FORMS may be any whole numbers.");
        x = withLine(0, 1, 27, 1);
        int[][] ends = {{0, 27}, {4, 31}, {0, -27}, {27, 0}, {0, 0}};
        for (int f = 0; f < 5; f++) {
            for (int m = -21; m <= 21; m++) {
                due(callOf("step", 0, f, m, 0), x.step(0, f, m, 0), ends[f][0] + m);
                if (m % 3 == 0) due(callOf("step", 0, f, m, 1), x.step(0, f, m, 1), ends[f][1] + m);
            }
        }
        due("TURNED and MOVED to the least of all", x.step(0, TURNED, -21, 1), -48);
        due("TURNED and MOVED to the greatest of all", withLine(27, 1, 0, 1).step(0, TURNED, 21, 1), 75);
    }

    private static void headOfTheAnswer() {
        says("but of the first HEAD (0 .. 10; 3 at first) NOTES one whose STEP less TONIC (0 .. 6; 0 at first), by 7 left over (0 or more), is 4"
                + " is 3 higher.");
        FuguePlan x = new FuguePlan();
        tenNotes(x, 0, 4, 1);
        sounding("HEAD 3 at first", x, ANSWER, 7, 7, 7, 8, 8, 8, 8, 8, 8, 8);
        for (int head = 0; head <= 10; head++) {
            due("sets(0, " + head + ")", x.sets(0, head), head == 0 ? 3 : head - 1);
            for (int i = 0; i < 10; i++) {
                due("HEAD " + head + ", NOTE " + i, x.noteOf(0, i, 3), i < head ? 7 : 8);
                due("HEAD " + head + ", TICK " + i, x.step(0, ANSWER, 0, i), i < head ? 7 : 8);
            }
        }
        due("HEAD 11", x.sets(0, 11), BAD);
        due("HEAD -1", x.sets(0, -1), BAD);
        x = withLine(4, 1);
        x.sets(0, 10);
        sounding("more HEAD than NOTES", x, ANSWER, 7);
        sounding("no NOTE", new FuguePlan(), ANSWER);
    }

    private static void tonicOfTheAnswer() {
        int[][] narrow = {{4, 11, 18, 25}, {5, 12, 19, 26}, {6, 13, 20, 27}, {0, 7, 14, 21}, {1, 8, 15, 22}, {2, 9, 16, 23}, {3, 10, 17, 24}};
        for (int step = 0; step <= 27; step++) {
            FuguePlan x = withLine(step, 1);
            for (int tonic = 0; tonic <= 6; tonic++) {
                int higher = 4;
                for (int its : narrow[tonic]) higher = its == step ? 3 : higher;
                if (tonic == 0) due("TONIC 0 at first, STEP " + step, x.noteOf(0, 0, 3), step + higher);
                x.sets(1, tonic);
                due("TONIC " + tonic + ", STEP " + step, x.noteOf(0, 0, 3), step + higher);
                due("TONIC " + tonic + ", STEP " + step + ", ANSWER", x.step(0, ANSWER, 0, 0), step + higher);
                for (int f : new int[] {PLAIN, TURNED, BACK, LONG}) due("no ANSWER", x.step(0, f, 0, 0), step);
            }
        }
        due("TONIC 7", new FuguePlan().sets(1, 7), BAD);
        due("TONIC -1", new FuguePlan().sets(1, -1), BAD);
        FuguePlan x = withLine(4, 1);
        due("MOVED does not matter for it", x.step(0, ANSWER, 1, 0), 8);
    }

    // ---- faults of two sounds

    /** LINE 0 in VOICE 0 from a TICK on, LINE 1 in VOICE 1 from a TICK on, by METER 1. */
    private static FuguePlan together(FuguePlan x, int start, int lowerStart) {
        x.sets(2, 1);
        x.enters(0, 0, 0, start, 0);
        x.enters(1, 0, 0, lowerStart, 1);
        return x;
    }

    /** Two LINES of one STEP each: UPPER is 1 higher than LOWER, a CLASH at each TICK. */
    private static FuguePlan clashing(int ticks, int lowerTicks) {
        FuguePlan x = withLine(11, ticks);
        notes(x, 1, 10, lowerTicks);
        return x;
    }

    private static void soundsTogether() {
        says("FAULTS of two SOUNDS, one UPPER, one LOWER, are told of TICKS at which both sound;");
        // START of each, TICKS at which both sound: UPPER has 4, LOWER 2
        int[][] starts = {{10, 7, 0}, {10, 8, 0}, {10, 9, 1}, {10, 10, 2}, {10, 11, 2}, {10, 12, 2}, {10, 13, 1}, {10, 14, 0}, {10, 15, 0},
                {0, 0, 2}, {0, 3, 1}, {0, 4, 0}, {1, 0, 1}, {2, 0, 0}, {199, 199, 2}, {199, 198, 1}, {199, 197, 0}};
        for (int[] s : starts) {
            FuguePlan x = together(clashing(4, 2), s[0], s[1]);
            due("CLASHES, from " + s[0] + " and " + s[1] + " on", x.faults(0, 1, 0), s[2]);
            due("the other way", x.faults(1, 0, 0), s[2]);
            due("of all", x.all(0), s[2]);
            due("the first", x.first(0), s[2] == 0 ? NONE : Math.max(s[0], s[1]));
        }
        FuguePlan x = clashing(1, 1);
        x.sets(2, 1);
        x.enters(0, LONG, 0, 5, 0);
        x.enters(1, 0, 0, 6, 1);
        x.enters(1, 0, 0, 7, 2);
        due("the last TICK of LONG", x.faults(0, 1, 0), 1);
        due("the TICK behind it", x.faults(0, 2, 0), 0);
    }

    private static void clash() {
        says("there CLASS is STEP of UPPER less STEP of LOWER, by 7 left over (0 or more).");
        List<Integer> clashing = List.of(1, 3, 6, 8, 10, 13, 15, 17, 20, -1, -4, -6, -8, -11, -13, -15, -18, -20);
        for (int m = -21; m <= 21; m++) {
            FuguePlan x = withLine(10, 1);
            x.enters(0, 0, m, 0, 0);
            x.enters(0, 0, 0, 0, 1);
            due("CLASH, STEP of UPPER less STEP of LOWER " + m, x.faults(0, 1, 0), clashing.contains(m) ? 1 : 0);
        }
        // 69 is 6 over 63, 68 is 5; -69 is 1 over -70, -68 is 2
        int[][] far = {{27, 0, 21, -21, 1}, {27, 0, 20, -21, 0}, {0, 27, -21, 21, 1}, {0, 27, -20, 21, 0}};
        for (int[] f : far) {
            FuguePlan x = withLine(f[0], 1);
            notes(x, 1, f[1], 1);
            x.enters(0, 0, f[2], 0, 0);
            x.enters(1, 0, f[3], 0, 1);
            due("CLASH far off", x.faults(0, 1, 0), f[4]);
        }
        clashByMeter();
    }

    private static void clashByMeter() {
        says("0 CLASH: the TICK is divided by METER (1 .. 8; 4 at first) and CLASS is 1, 3 or 6.");
        FuguePlan x = new FuguePlan();
        tenNotes(x, 0, 10, 4);
        x.enters(0, 0, 1, 0, 0);
        x.enters(0, 0, 0, 0, 1);
        x.enters(0, 0, 1, 81, 0);
        x.enters(0, 0, 0, 81, 1);
        due("METER 4 at first", x.faults(0, 1, 0), 10);
        // TICKS 0 to 39 and 81 to 120
        int[][] want = {{40, 40}, {20, 20}, {14, 14}, {10, 10}, {8, 8}, {7, 7}, {6, 6}, {5, 5}};
        for (int meter = 1; meter <= 8; meter++) {
            x.sets(2, meter);
            due("METER " + meter + " from TICK 0 on", x.faults(0, 1, 0), want[meter - 1][0]);
            due("METER " + meter + " from TICK 81 on", x.faults(2, 3, 0), want[meter - 1][1]);
        }
        due("METER 0", x.sets(2, 0), BAD);
        due("METER 9", x.sets(2, 9), BAD);
        for (int meter = 1; meter <= 8; meter++) {
            for (int t = 0; t <= 17; t++) {
                x = together(clashing(1, 1), t, t);
                x.sets(2, meter);
                due("METER " + meter + ", TICK " + t, x.faults(0, 1, 0), t % meter == 0 ? 1 : 0);
            }
        }
    }

    private static void crossing() {
        says("1 CROSSING: STEP of UPPER is below that of LOWER.");
        int[][] want = {{-21, 1}, {-7, 1}, {-2, 1}, {-1, 1}, {0, 0}, {1, 0}, {2, 0}, {21, 0}};
        for (int[] w : want) {
            FuguePlan x = withLine(10, 3);
            x.enters(0, 0, w[0], 0, 2);
            x.enters(0, 0, 0, 1, 3);
            due("CROSSINGS, UPPER MOVED by " + w[0], x.faults(0, 1, 1), 2 * w[1]);
        }
    }

    private static void parallel() {
        says("2 PARALLEL: both sounded at the TICK ahead, too; both STEPS are greater than there, or both less; CLASS is 0 here and there, or"
                + " 4 here and there.");
        // UPPER there and here, LOWER there and here
        int[][] moves = {{10, 11, 3, 4, 1}, {11, 10, 4, 3, 1}, {14, 15, 10, 11, 1}, {15, 14, 11, 10, 1}, {10, 18, 3, 4, 1}, {14, 22, 10, 11, 1},
                {10, 10, 10, 10, 0}, {10, 10, 3, 3, 0}, {10, 17, 3, 3, 0}, {17, 10, 3, 3, 0}, {10, 10, 3, 10, 0}, {10, 10, 10, 3, 0},
                {10, 16, 3, 2, 0}, {16, 10, 2, 3, 0}, {10, 15, 3, 4, 0}, {14, 18, 10, 11, 0}, {11, 12, 10, 11, 0}, {12, 13, 10, 11, 0},
                {13, 14, 10, 11, 0}, {15, 16, 10, 11, 0}, {16, 17, 10, 11, 0}, {3, 4, 10, 11, 1}, {10, 11, 10, 11, 1}, {7, 8, 10, 11, 1}};
        for (int[] m : moves) {
            FuguePlan x = withLine(m[0], 1, m[1], 1);
            notes(x, 1, m[2], 1, m[3], 1);
            String how = "PARALLELS, UPPER " + m[0] + " " + m[1] + ", LOWER " + m[2] + " " + m[3];
            due(how, together(x, 0, 0).faults(0, 1, 2), m[4]);
        }
        FuguePlan x = withLine(10, 2, 11, 2);
        notes(x, 1, 3, 2, 4, 2);
        due("once where both rise, not where they stay", together(x, 1, 1).faults(0, 1, 2), 1);
        parallelAhead();
        severalAtATick();
    }

    private static void parallelAhead() {
        says("both sounded at the TICK ahead, too;");
        FuguePlan x;
        for (int step = 1; step < 27; step++) {
            for (int ahead : new int[] {step - 1, step + 1}) {
                x = withLine(step, 1);
                due("only LOWER did, " + ahead + " and " + step, together(withLine1(x, ahead, step), 5, 4).faults(0, 1, 2), 0);
                x = withLine(ahead, 1, step, 1);
                due("only UPPER did, " + ahead + " and " + step, together(withLine1(x, step), 4, 5).faults(0, 1, 2), 0);
                x = withLine(ahead, 1, step, 1);
                due("both did, " + ahead + " and " + step, together(withLine1(x, ahead, step), 4, 4).faults(0, 1, 2), 1);
            }
        }
        x = withLine(11, 1);
        notes(x, 1, 4, 1);
        due("there is no TICK ahead of 0", together(x, 0, 0).faults(0, 1, 2), 0);
        x = together(withLine1(withLine(10, 1, 11, 1), 3, 4), 0, 0);
        due("from TICK 0 to 1", x.first(0), 1);
        // the VOICE sounded, but by another ENTRY
        x = withLine(10, 1);
        notes(x, 1, 11, 1);
        notes(x, 2, 3, 1, 4, 1);
        x.enters(0, 0, 0, 0, 0);
        x.enters(1, 0, 0, 1, 0);
        x.enters(2, 0, 0, 0, 1);
        due("another ENTRY of the VOICE did", x.all(2), 0);
    }

    private static void severalAtATick() {
        says("(A TICK may have several.)");
        FuguePlan x = together(withLine1(withLine(10, 1, 11, 1), 17, 18), 0, 0);
        int[] several = {0, 2, 1, 3};
        for (int what = 0; what < 4; what++) due("CROSSING and PARALLEL", x.faults(0, 1, what), several[what]);
        x = together(withLine1(withLine(10, 1), 11), 0, 0);
        int[] other = {1, 1, 0, 2};
        for (int what = 0; what < 4; what++) due("CLASH and CROSSING", x.faults(0, 1, what), other[what]);
    }

    /** LINE 1 has these STEPS, a TICK each. */
    private static FuguePlan withLine1(FuguePlan x, int... steps) {
        for (int step : steps) x.note(1, step, 1);
        return x;
    }

    // ---- entries

    private static void entries() {
        says("ENTRIES 0 .. 9, as they come: a SOUND (LINE, FORM, MOVE -21 .. 21, START 0 .. 199) in a VOICE (0 .. 3, 0 the uppermost).");
        FuguePlan x = withLine(10, 1);
        for (int e = 0; e < 10; e++) due("as they come", x.enters(0, 0, e, 199 - 5 * e, 3 - e % 4), e);
        due("there is no ENTRY 10", x.enters(0, 0, 0, 0, 0), FULL);
        for (int e = 0; e < 10; e++) due("as they come, START", x.entry(e, 2), 199 - 5 * e);
        due("there is no ENTRY 10", x.entry(10, 0), BAD);
        int[][] ranges = {{0, 3}, {0, 4}, {-21, 21}, {0, 199}, {0, 3}};
        for (int i = 0; i < 5; i++) {
            for (int v = ranges[i][0] - 1; v <= ranges[i][1] + 1; v++) {
                x = new FuguePlan();
                for (int l = 0; l < 4; l++) x.note(l, 10, 1);
                int[] a = new int[5];
                a[i] = v;
                boolean isOne = v >= ranges[i][0] && v <= ranges[i][1];
                due(callOf("enters", a), x.enters(a[0], a[1], a[2], a[3], a[4]), isOne ? 0 : BAD);
            }
        }
        noTwoOfOneVoice();
        lesserVoiceIsUpper();
        byThingsAsTheyAreNow();
        lineThatAnEntryHas();
    }

    private static void noTwoOfOneVoice() {
        says("No two of one VOICE sound at one TICK.");
        // the ENTRY that is there sounds at 10 to 13, the other has 2 TICKS
        int[][] starts = {{7, 1}, {8, 1}, {9, NO}, {10, NO}, {11, NO}, {12, NO}, {13, NO}, {14, 1}, {15, 1}};
        for (int[] s : starts) {
            due("in front of it, behind it: " + s[0], there(clashing(4, 2)).enters(1, 0, 0, s[0], 2), s[1]);
            due("another VOICE", there(clashing(4, 2)).enters(1, 0, 0, s[0], 1), 1);
        }
        // LONG it sounds at 10 to 17
        int[][] longStarts = {{8, 1}, {9, NO}, {14, NO}, {17, NO}, {18, 1}};
        for (int[] s : longStarts) {
            FuguePlan x = clashing(4, 2);
            x.enters(0, LONG, 0, 10, 2);
            due("by a LONG one: " + s[0], x.enters(1, 0, 0, s[0], 2), s[1]);
        }
        due("LONG, up to it", there(clashing(4, 2)).enters(1, LONG, 0, 6, 2), 1);
        due("LONG, one too many", there(clashing(4, 2)).enters(1, LONG, 0, 7, 2), NO);
        due("around it", there(clashing(2, 4)).enters(1, LONG, 0, 7, 2), NO);
    }

    private static void lesserVoiceIsUpper() {
        says("Of two of unlike VOICES that of the lesser VOICE is UPPER.");
        for (int v = 0; v < 4; v++) {
            for (int w = 0; w < 4; w++) {
                if (v == w) continue;
                FuguePlan x = withLine(10, 1);
                x.enters(0, 0, 2, 0, v);
                x.enters(0, 0, 0, 0, w);
                due("the higher STEP in VOICE " + v + ", the other in " + w, x.faults(0, 1, 1), v > w ? 1 : 0);
                due("the other way", x.faults(1, 0, 1), v > w ? 1 : 0);
            }
        }
    }

    /** LINE 0 in VOICE 2 from TICK 10 on. */
    private static FuguePlan there(FuguePlan x) {
        x.enters(0, 0, 0, 10, 2);
        return x;
    }

    private static void byThingsAsTheyAreNow() {
        says("They are by HEAD and TONIC as these are now;");
        FuguePlan x = withLine(4, 1, 4, 1, 5, 1);
        x.enters(0, ANSWER, 0, 0, 1);
        x.enters(0, PLAIN, 3, 0, 2);
        x.sets(2, 1);
        // 7 7 9 over 7 7 8: CLASH at TICK 2
        due("HEAD 3, TONIC 0", x.all(3), 1);
        x.sets(0, 1);
        // 7 8 9: 0, 1, 1
        due("HEAD 1: sounds(1, 1)", x.sounds(1, 1), 8);
        due("HEAD 1", x.all(0), 2);
        x.sets(0, 10);
        x.sets(1, 1);
        // 8 8 8 over 7 7 8: 1, 1, 0
        due("TONIC 1: sounds(1, 2)", x.sounds(1, 2), 8);
        due("TONIC 1: first(0)", x.first(0), 0);
        x.back();
        due("TONIC 0 again", x.sounds(1, 0), 7);
    }

    private static void lineThatAnEntryHas() {
        says("a LINE that an ENTRY has can not be changed.");
        for (int l = 0; l < 4; l++) {
            int its = l;
            FuguePlan x = new FuguePlan();
            for (int n = 0; n < 4; n++) x.note(n, 5, 1);
            x.enters(l, 0, 0, 0, 0);
            due("note", x.note(l, 5, 1), NO);
            due("drop", x.drop(l, 0), NO);
            due("empties", x.empties(l), NO);
            due("draw", x.draw(l, 0, 1), NO);
            due("THE TEXT", reads(x, "l" + its + ":5 1;"), -1000);
            for (int other = 0; other < 4; other++) {
                if (other != l) due("another one can", x.note(other, 5, 1), 1);
            }
            x.enters(l, 0, 0, 1, 0);
            x.leaves(0);
            due("one of two ENTRIES went", x.note(l, 5, 1), NO);
            x.leaves(0);
            due("both went", x.note(l, 5, 1), 1);
        }
    }

    // ---- strettos, inversions

    private static void strettos() {
        says("DELAY d (1 to LENGTH less 1): the LINE PLAIN from TICK 0 on is UPPER, by f, MOVED by m, from TICK d on LOWER.");
        for (int ticks = 1; ticks <= 4; ticks++) {
            FuguePlan x = withLine(5, ticks);
            for (int d = -1; d <= 9; d++) {
                for (int f : new int[] {PLAIN, LONG}) {
                    due(callOf("stretto", 0, f, 2, d, 3) + " of LENGTH " + ticks, x.stretto(0, f, 2, d, 3), d >= 1 && d < ticks ? 1 : BAD);
                }
            }
        }
        FuguePlan x = new FuguePlan();
        tenNotes(x, 0, 5, 4);
        x.sets(2, 1);
        // MOVED by 1 UPPER is 1 below LOWER: CLASH and CROSSING from TICK d to the end of UPPER
        for (int d = 1; d < 40; d++) {
            due("CLASHES by DELAY " + d, x.stretto(0, PLAIN, 1, d, 0), 40 - d);
            due("CROSSINGS by DELAY " + d, x.stretto(0, LONG, 1, d, 1), 40 - d);
        }
        x.sets(2, 4);
        int[][] want = {{1, 9}, {3, 9}, {4, 9}, {5, 8}, {36, 1}, {37, 0}, {39, 0}};
        for (int[] w : want) due("METER 4 counts from TICK 0 on, DELAY " + w[0], x.stretto(0, PLAIN, 1, w[0], 0), w[1]);
        // BACK it is 2 TICKS of 10 first, then 1 of 13: at TICK 1 UPPER is 10, LOWER 10
        x = withLine(13, 1, 10, 2);
        x.sets(2, 1);
        due("BACK", x.stretto(0, BACK, 0, 1, 0), 0);
        due("BACK, CLASS 3 by MOVE -3", x.stretto(0, BACK, -3, 1, 0), 2);

        says("It FITS, if it has no CLASH and no PARALLEL.");
        // 10 11 by DELAY 1: 11 over 10, MOVED
        int[][] fits = {{0, 1, 0, 0, 0}, {2, 1, 1, 0, 0}, {3, 0, 1, 0, 1}, {1, 0, 0, 0, 1}, {-1, 0, 0, 0, 1}};
        x = withLine(10, 1, 11, 1);
        x.sets(2, 1);
        for (int[] f : fits) {
            for (int what = 0; what < 4; what++) due(callOf("stretto", 0, 0, f[0], 1, what), x.stretto(0, 0, f[0], 1, what), f[what + 1]);
            due("the bit of DELAY 1", x.strettos(0, 0, f[0]), 2 * f[4]);
        }
        x = withLine(10, 1, 11, 1, 12, 1);
        // 11 12 over 10 11 MOVED by 1: CLASS 0 and 0
        due("PARALLEL alone", x.stretto(0, 0, 1, 1, 2), 1);
        due("CLASH not", x.stretto(0, 0, 1, 1, 0), 0);
        due("it does not FIT", x.stretto(0, 0, 1, 1, 3), 0);
        inversions();
    }

    private static void inversions() {
        says("INVERTED at n (0 .. 20), two LINES a and b, both from TICK 0 on: b MOVED by n is UPPER, a LOWER, both PLAIN. It is WELL, if it has"
                + " no FAULT.");
        FuguePlan x = withLine(21, 2);
        notes(x, 1, 1, 3);
        due("n 20: just no CROSSING", x.inverted(0, 1, 20, 1), 0);
        due("n 19", x.inverted(0, 1, 19, 1), 2);
        for (int n : new int[] {-1, 21}) due("n " + n, x.inverted(0, 1, n, 1), BAD);
        due("a, not b, is MOVED never", x.inverted(1, 0, 0, 1), 0);
        x = withLine(10, 1);
        notes(x, 1, 10, 1);
        int[] well = {1, 0, 1, 0, 1, 1, 0};
        for (int n = 0; n <= 20; n++) {
            due("one CLASH is enough, n " + n, x.inverted(0, 1, n, 3), well[n % 7]);
            due("bit " + n, x.inversions(0, 1) >> n & 1, well[n % 7]);
        }
        due("no bit beyond 20", x.inversions(0, 1) >> 21, 0);
        x = withLine(10, 1);
        notes(x, 1, 7, 1);
        // 8 over 10 is CLASS 5
        due("one CROSSING is enough", x.inverted(0, 1, 1, 3), 0);
        due("it has no CLASH", x.inverted(0, 1, 1, 0), 0);
        x = withLine(10, 1, 12, 1);
        notes(x, 1, 10, 1, 12, 1);
        due("one PARALLEL is enough", x.inverted(0, 1, 4, 3), 0);
        due("it has nothing else", x.inverted(0, 1, 4, 0) + x.inverted(0, 1, 4, 1), 0);
    }

    // ---- orders

    private static void orders() {
        says("ORDER of V VOICES (2 .. 4): each of 0 .. V less 1 once; told as a number, a figure each, the first the highest.");
        FuguePlan x = withLine(5, 1);
        int[][] rows = {{2, 1}, {2, 10}, {3, 12}, {3, 210}, {4, 123}, {4, 3210}};
        int[][] none = {{1, 0}, {5, 1234}, {2, 0}, {2, 11}, {2, 2}, {2, 12}, {2, 20}, {2, 21}, {2, 101}, {2, 110}, {3, 1}, {3, 10}, {3, 11},
                {3, 13}, {3, 121}, {3, 310}, {3, 1012}, {3, 2100}, {4, 12}, {4, 122}, {4, 124}, {4, 3211}, {4, 4210}, {4, 10123}, {4, 32100}};
        for (int[] r : rows) due(callOf("order", r), x.order(r[0], r[1]), 0);
        for (int[] n : none) due(callOf("order", n), x.order(n[0], n[1]), BAD);
        for (int v = 1; v <= 5; v++) due(callOf("best", v, 1), x.best(v, 1), v < 2 || v > 4 ? BAD : 0);
        // the first VOICE is the first figure: 17 over 7 by METER 1 is CLASS 3 by ORDER 01, 14 over 10 is 4 by ORDER 10
        x = withLine(10, 1);
        notes(x, 1, 13, 1);
        x.sets(2, 1);
        due("order(2, 1)", x.order(2, 1), 1);
        due("order(2, 10)", x.order(2, 10), 0);

        says("By it the k-th (k 0 on) has LINE 0 from TICK k times LENGTH of LINE 0 on, by PLAIN if k is even, ANSWER if it is odd, MOVED by 0 less 7"
                + " times its VOICE; and, if it is not the last and LINE 1 is not empty, right behind it LINE 1, PLAIN, MOVED by the same, and if k is"
                + " even by 4 more.");
        for (int v = 2; v <= 4; v++) {
            x = withLine(10, 3);
            due("LINE 1 is empty", x.lays(v), v);
            for (int k = 0; k < v; k++) entryIs(x, k, 0, k % 2, 3 * k, k, 21 - 7 * k);
            x = withLine(10, 3);
            notes(x, 1, 12, 1);
            due("LINE 1 is not", x.lays(v), 2 * v - 1);
            for (int k = 0; k < v; k++) {
                entryIs(x, 2 * k, 0, k % 2, 3 * k, k, 21 - 7 * k);
                if (k < v - 1) entryIs(x, 2 * k + 1, 1, 0, 3 * k + 3, k, 21 - 7 * k + (k % 2 == 0 ? 4 : 0));
            }
            due("none behind the last", x.entry(2 * v - 1, 0), BAD);
        }
    }

    private static void entryIs(FuguePlan x, int e, int line, int form, int start, int voice, int moveAnd21) {
        int[] want = {line, form, start, voice, line == 0 ? 3 : 1, moveAnd21};
        for (int what = 0; what < 6; what++) due(callOf("entry", e, what), x.entry(e, what), want[what]);
    }

    // ---- keys

    private static void keys() {
        says("KEYS 0 .. 11 are MAJORS, 12 .. 23 MINORS. ROADS, both ways: from a KEY to the next (from 11 to 0, from 23 to 12), of 1; from MAJOR k"
                + " to MINOR k and 12, of 1; from MAJOR k to the MINOR that is 12 and (k and 9, by 12 left over), of 2.");
        for (int k = 0; k < 12; k++) {
            road(k, k == 11 ? 0 : k + 1, 1);
            road(k + 12, k == 11 ? 12 : k + 13, 1);
            road(k, k + 12, 1);
            road(k, k < 3 ? k + 21 : k + 9, 2);
        }
        // there is none from 11 to 12, nor from 23 to 0
        int[][] ways = {{11, 12, 2}, {23, 0, 2}, {0, 23, 2}, {0, 22, 3}, {0, 20, 3}, {3, 12, 2}, {2, 23, 2}, {2, 12, 3}, {3, 23, 3}};
        for (int[] w : ways) due(callOf("way", w[0], w[1]), new FuguePlan().way(w[0], w[1]), w[2]);

        says("WAY from a KEY to another one: the least that ROADS from one to the other are together.");
        int[] round = {0, 1, 2, 3, 4, 5, 6, 5, 4, 3, 2, 1};
        int[] across = {1, 2, 3, 4, 5, 6, 5, 4, 3, 2, 3, 2};
        for (int from = 0; from < 12; from++) {
            FuguePlan x = new FuguePlan();
            for (int k = 0; k < 12; k++) {
                int to = (from + k) % 12;
                due(callOf("way", from, to), x.way(from, to), round[k]);
                due(callOf("way", 12 + from, 12 + to), x.way(12 + from, 12 + to), round[k]);
                due(callOf("way", from, 12 + to), x.way(from, 12 + to), across[k]);
                due(callOf("way", 12 + to, from), x.way(12 + to, from), across[k]);
            }
        }
        visits();
    }

    private static void road(int a, int b, int length) {
        FuguePlan x = new FuguePlan();
        due(callOf("way", a, b), x.way(a, b), length);
        due(callOf("way", b, a), x.way(b, a), length);
        due(callOf("next", a, b), x.next(a, b) == b || length == 2 ? 1 : 0, 1);
    }

    private static void visits() {
        says("VISITS: KEYS, 5 at most, each once.");
        FuguePlan x = new FuguePlan();
        for (int n = 1; n <= 5; n++) due("the " + n + ".", x.visits(24 - n), n);
        due("a sixth", x.visits(0), FULL);
        for (int n = 1; n <= 5; n++) due("again", x.visits(24 - n), NO);
        due("KEY 24", x.visits(24), BAD);

        says("PATH: from HOME (a KEY; 0 at first) through all VISITS, in some order, HOME again: all WAYS together.");
        due("HOME is 0 at first", new FuguePlan().told(8), 0);
        for (int home = -1; home <= 24; home++) {
            x = new FuguePlan();
            due("HOME " + home, x.sets(3, home), home < 0 || home > 23 ? BAD : 0);
            due("no VISITS", x.path(NONE), 0);
            due("no first KEY", x.path(0), -5);
            x.visits(6);
            due("there and back", x.path(NONE), 2 * x.way(x.told(8), 6));
            due("the one KEY", x.path(0), 6);
            due("no second one", x.path(1), -5);
        }

        says("BEST PATH: the least; of like ones that with the least first KEY of VISITS, then the least second, and so on.");
        pathIs(0, new int[] {1, 11}, 4, 1, 11);
        pathIs(0, new int[] {11, 1}, 4, 1, 11);
        pathIs(0, new int[] {0}, 0, 0);
        pathIs(23, new int[] {23, 22}, 2, 22, 23);
        // round the circle, HOME among them or not; 4 to 8 either way
        pathIs(6, new int[] {8, 4, 6}, 8, 4, 6, 8);
        pathIs(6, new int[] {8, 7, 5, 4}, 8, 4, 5, 7, 8);
        pathIs(0, new int[] {5, 4, 3, 2, 1}, 10, 1, 2, 3, 4, 5);
        pathIs(3, new int[] {5, 4, 2, 1}, 8, 1, 2, 4, 5);
        pathIs(3, new int[] {1, 5, 3}, 8, 1, 3, 5);
        for (int[] p : PATHS) {
            pathIs(p[0], new int[] {p[6], p[5], p[4], p[3], p[2]}, Arrays.copyOfRange(p, 1, 7));
            pathIs(p[0], new int[] {p[4], p[2], p[6], p[3], p[5]}, Arrays.copyOfRange(p, 1, 7));
        }
    }

    /**
     * HOME, the least, the KEYS of the BEST PATH, by a program apart from the class: each order of five KEYS once (back home the other way round
     * is as long, so the first is less than the last), then three where like ones part at the second, third and fourth KEY.
     */
    private static final int[][] PATHS = {
        {0, 12, 1, 2, 5, 18, 21}, {13, 14, 4, 5, 8, 21, 11}, {13, 14, 2, 3, 18, 11, 23}, {15, 14, 4, 5, 21, 22, 14},
        {12, 12, 3, 4, 17, 8, 10}, {3, 14, 1, 11, 21, 16, 15}, {11, 14, 0, 15, 6, 21, 22}, {14, 14, 2, 10, 9, 20, 18},
        {1, 12, 2, 15, 16, 10, 22}, {0, 12, 3, 17, 18, 19, 10}, {2, 14, 1, 12, 23, 7, 14}, {3, 12, 1, 10, 18, 17, 5},
        {19, 12, 0, 12, 3, 5, 18}, {3, 14, 4, 18, 9, 21, 14}, {19, 12, 0, 9, 8, 6, 18}, {3, 12, 0, 11, 10, 19, 5},
        {7, 14, 9, 21, 22, 13, 17}, {6, 14, 2, 12, 22, 9, 8}, {13, 12, 5, 18, 9, 10, 11}, {2, 12, 0, 21, 9, 16, 15},
        {13, 14, 0, 20, 8, 6, 16}, {14, 12, 2, 21, 9, 18, 6}, {2, 12, 1, 20, 18, 5, 14}, {1, 12, 11, 20, 19, 17, 14},
        {23, 12, 13, 5, 18, 21, 22}, {18, 12, 6, 2, 11, 20, 19}, {16, 12, 4, 0, 10, 8, 17}, {2, 12, 1, 0, 11, 19, 7},
        {17, 14, 3, 2, 23, 9, 19}, {15, 12, 2, 0, 20, 19, 18}, {9, 12, 10, 11, 4, 17, 18}, {16, 12, 4, 13, 1, 21, 17},
        {16, 12, 8, 9, 11, 1, 13}, {7, 14, 9, 10, 23, 2, 17}, {22, 14, 10, 18, 3, 13, 23}, {7, 12, 5, 14, 2, 23, 10},
        {21, 12, 9, 15, 14, 1, 22}, {15, 12, 6, 20, 22, 2, 14}, {7, 14, 8, 23, 3, 18, 19}, {13, 14, 10, 19, 6, 17, 16},
        {6, 12, 7, 19, 11, 0, 13}, {11, 12, 9, 18, 16, 4, 13}, {16, 12, 10, 0, 1, 13, 15}, {7, 12, 16, 4, 12, 23, 20},
        {18, 12, 10, 1, 13, 4, 16}, {16, 14, 15, 2, 22, 8, 18}, {11, 14, 9, 6, 4, 14, 23}, {13, 12, 10, 9, 8, 17, 16},
        {11, 14, 7, 6, 17, 4, 23}, {1, 14, 9, 8, 19, 6, 13}, {20, 16, 10, 14, 3, 4, 17}, {22, 12, 10, 19, 3, 2, 23},
        {7, 14, 10, 23, 1, 3, 15}, {10, 14, 7, 17, 2, 0, 11}, {0, 14, 14, 3, 4, 5, 19}, {14, 14, 13, 1, 11, 6, 16},
        {16, 12, 15, 2, 0, 10, 17}, {9, 12, 18, 3, 12, 0, 21}, {22, 12, 21, 16, 3, 12, 23}, {19, 12, 5, 3, 2, 0, 21},
        {15, 14, 4, 12, 20, 17, 15}, {15, 14, 6, 7, 8, 22, 17}, {7, 14, 4, 17, 18, 11, 19}};

    private static void pathIs(int home, int[] keys, int... want) {
        FuguePlan x = new FuguePlan();
        x.sets(3, home);
        for (int k : keys) x.visits(k);
        for (int i = -1; i < keys.length; i++) due("HOME " + home + ", " + callOf("path", i), x.path(i), want[i + 1]);
        due("not so many", x.path(keys.length), -5);
    }
}
