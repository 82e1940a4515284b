import java.util.List;
import java.util.function.Supplier;

/** THE TEXT, STATES and refused calls under "Terms", promises 30 to 35: their boundary cases, sentence by sentence. */
public final class BoundsOfTextsTest extends Checks {
    private static final Supplier<FuguePlan> EMPTY = FuguePlan::new;
    private static final String FIGURES = "0123456789";

    public static void main(String[] args) {
        bytes();
        ordersOfWork();
        everyByte();
        tooEarly();
        nothingIsDone();
        whatStops();
        states();
        refusals();
        promises();
        end();
    }

    /** Each text is without FAULT, and all its ORDERS OF WORK are done. */
    private static void done(int orders, String... texts) {
        for (String text : texts) due("reads \"" + text + "\"", reads(new FuguePlan(), text), orders);
    }

    private static void fault(String text, int place) {
        FuguePlan x = new FuguePlan();
        due("reads \"" + text + "\"", reads(x, text), -10 - place);
        due("no STATE by \"" + text + "\"", x.told(10), 0);
    }

    // ---- the text

    private static void bytes() {
        says("THE TEXT (120 bytes at most) tells ORDERS OF WORK, each ended by ;");
        due("sixty ORDERS in 120 bytes", reads(new FuguePlan(), "k;".repeat(60)), 60);
        due("fifty-nine in 119", reads(new FuguePlan(), "k;".repeat(58) + "h1;"), 59);
        due("one in 120", reads(new FuguePlan(), " ".repeat(117) + "h1;"), 1);
        due("one in 2", reads(new FuguePlan(), "k;"), 1);
        FuguePlan x = typed(new FuguePlan(), "k;".repeat(58) + "h12");
        due("119 bytes without the last ;", x.reads(), -10 - 119);
        due("type: 120", x.type(';'), 120);
        due("type: FULL", x.type(';'), FULL);
        due("120 bytes: HEAD 12 stops", x.reads(), -1058);
        fault("k;".repeat(59) + "kk", 119);
        fault("k;".repeat(59) + " k", 120);
        fault(" ".repeat(120), 120);
        // as many numbers as there is room for
        due("sixty numbers: KEY 1 again", reads(new FuguePlan(), "k" + "1 ".repeat(59) + ";"), -1000);
        due("an ORDER of ten NOTES, twice", reads(new FuguePlan(), ("l3:1 1" + ",1 1".repeat(9) + ";").repeat(2)), 2);
    }

    private static void ordersOfWork() {
        says("l n, then perhaps : and NOTES p t parted by , (LINE n has these NOTES alone);");
        FuguePlan x = new FuguePlan();
        tenNotes(x, 2, 5, 4);
        due("one NOTE for ten", reads(x, "l2:0 1;"), 1);
        due("this NOTE alone", notesOf(x, 2), List.of(1, 0, 1));
        due("two", reads(x, "l2:27 4,0 1;"), 1);
        due("these two", notesOf(x, 2), List.of(2, 27, 4, 0, 1));
        due("none", reads(x, "l2;"), 1);
        due("no NOTE", notesOf(x, 2), List.of(0));
        due("none for none", reads(x, "l2;"), 1);
        due("no NOTE", notesOf(x, 2), List.of(0));
        due("ten", reads(x, "l2:0 1" + ",3 2".repeat(9) + ";"), 1);
        due("ten NOTES", notesOf(x, 2), List.of(10, 0, 1, 3, 2, 3, 2, 3, 2, 3, 2, 3, 2, 3, 2, 3, 2, 3, 2, 3, 2));
        due("another LINE", x.line(1, 1), 0);
        fault("l2:;", 3);
        fault("l2:1 1,;", 7);
        fault("l2,1 1;", 2);
        fault("l2 1 1;", 3);
        fault("l2:1 1 2 2;", 7);
        fault("l2:1 1:2 2;", 6);

        says("k, then KEYS or none (VISITS are these alone; HOME stays).");
        x = new FuguePlan();
        x.sets(3, 7);
        due("five", reads(x, "k 23 0 12 11 7;"), 1);
        due("five KEYS", x.told(9), 5);
        due("another one", reads(x, "k 9;"), 1);
        due("this alone", x.told(9), 1);
        due("this alone", x.path(0), 9);
        due("none", reads(x, "k;"), 1);
        due("no KEY", x.told(9), 0);
        due("none for none", reads(x, "k;"), 1);
        due("HOME stays", x.told(8), 7);

        says("Numbers have 1 to 3 figures, m of e perhaps - ahead;");
        done(1, "h5;", "h05;", "h005;", "k;", "k0;", "k00;", "k000;", "k023;");
        int[] places = {1, 1, 1, 3, 3, 3};
        String[] texts = {"h;", "h0005;", "h00005;", "h5 5;", "l1 1;", "l1 1"};
        for (int i = 0; i < texts.length; i++) fault(texts[i], places[i]);
        for (String m : new String[] {"0", "00", "000", "21", "021", "-0", "-00", "-000", "-1", "-21", "-021"}) {
            x = withLine(5, 1);
            due("m " + m, reads(x, "e0 0 " + m + " 7 1;"), 1);
            due("MOVE and 21 by m " + m, x.entry(0, 5), 21 + Integer.parseInt(m));
            due("START by m " + m, x.entry(0, 2), 7);
        }
        fault("e0 0 0000 0 0;", 5);
        fault("e0 0 -0000 0 0;", 5);
        fault("e0 0-0000 0 0;", 4);
        fault("e0 0 -;", 6);
        String[] elsewhere = {"l-1;", "l1:-1 1;", "l1:1 -1;", "l1:1 1,-1 1;", "e-1 0 0 0 0;", "e0 -1 0 0 0;", "e0 0 0 -1 0;", "e0 0 0 0 -1;",
            "h-1;", "t-1;", "m-1;", "k-1;", "k 1 -1;", "-", "e0 0 0-1 0;"};
        for (String text : elsewhere) fault(text, text.indexOf('-'));
        blanks();
    }

    private static void blanks() {
        says("blanks (32) may stand anywhere but within a number (none behind a -), needed only where figures of two numbers would else stand side"
                + " by side (ahead of a - not).");
        String[] closest = {"l0:14 2,16 2;", "l1;", "e0 0-7 8 1;", "h10;", "t6;", "m1;", "k5 17;", "k;"};
        for (String text : closest) {
            boolean isEntry = text.startsWith("e");
            FuguePlan x = isEntry ? withLine(5, 1) : new FuguePlan();
            due("reads \"" + text + "\"", reads(x, text), 1);
            List<Integer> paper = paper(x);
            for (int at = 0; at <= text.length(); at++) {
                for (int many : new int[] {1, 2, 50}) {
                    String spaced = text.substring(0, at) + " ".repeat(many) + text.substring(at);
                    x = isEntry ? withLine(5, 1) : new FuguePlan();
                    boolean isWithin = at > 0 && at < text.length() && isFigure(text.charAt(at - 1)) && isFigure(text.charAt(at));
                    boolean isBehind = at > 0 && text.charAt(at - 1) == '-';
                    int got = reads(x, spaced);
                    if (isBehind) due("reads \"" + spaced + "\"", got, -10 - at);
                    else if (isWithin) due("two numbers in \"" + spaced + "\"", got == 1 && paper(x).equals(paper) ? 1 : 0, 0);
                    else due("as much as \"" + text + "\" by \"" + spaced + "\"", paper(x), paper);
                }
            }
        }
        due("two KEYS", reads(new FuguePlan(), "k1 2;k 12;k12;"), 3);
        fault("h1 0;", 3);
        fault("e00000;", 1);
        fault("e0 000;", 6);
        fault("e0 0 0 0;", 8);
        fault("e000 0 0 0;", 10);
        for (char c : new char[] {0, 9, 10, 13, 31, 33, 127}) {
            fault(c + "k;", 0);
            fault("k" + c + ";", 1);
            fault("k;" + c, 2);
        }
    }

    private static boolean isFigure(char c) {
        return FIGURES.indexOf(c) >= 0;
    }

    // ---- faults

    /** What can be typed behind a text, with all bytes that can stand there; ; or a blank behind it may end it, else it is too short. */
    private static void everyByte() {
        says("FAULT: the place of the first byte that can not stand there (a number of four figures or more: its first byte, or its -; a byte"
                + " behind a - that is no figure: itself);");
        String[][] texts = {{"", " ehklmt"}, {" ", " ehklmt"}, {"h1;", " ehklmt"}, {"k; ", " ehklmt"},
                {"h", " F"}, {"t ", " F"}, {"m1", " F;"}, {"h12", " F;"}, {"h1 ", " ;"}, {"t1 ", " ;"},
                {"l", " F"}, {"l ", " F"}, {"l0", " F:;"}, {"l0 ", " :;"}, {"l0:", " F"}, {"l0: ", " F"}, {"l0:1", " F"}, {"l0:1 ", " F"},
                {"l0:1 1", " F,;"}, {"l0:1 1 ", " ,;"}, {"l0:1 1,", " F"}, {"l0:1 1, 2", " F"}, {"l0:1 1,2 2", " F,;"},
                {"e", " F"}, {"e0", " F"}, {"e0 ", " F"}, {"e0 0", " F-"}, {"e0 0 ", " F-"}, {"e0 0-", "F"}, {"e0 0 -", "F"}, {"e0 0-1", " F"},
                {"e0 0-1 ", " F"}, {"e0 0 1", " F"}, {"e0 0 1 ", " F"}, {"e0 0 1 5", " F"}, {"e0 0 1 5 ", " F"}, {"e0 0 1 5 0", " F;"},
                {"e0 0 1 5 0 ", " ;"}, {"k", " F;"}, {"k ", " F;"}, {"k1", " F;"}, {"k1 ", " F;"}, {"k1 2", " F;"}, {"k1 2 ", " F;"}};
        for (String[] text : texts) {
            for (int c = 0; c <= 127; c++) nextByte(text[0], (char) c, text[1].replace("F", FIGURES), text[0].length());
        }
        // a fourth figure makes the number a FAULT, from its first byte or its - on
        String[][] full = {{"h123", " ;", "1"}, {"t 012", " ;", "2"}, {"l000", " :;", "1"}, {"l0:123", " ", "3"}, {"l0:1 123", " ,;", "5"},
                {"e123", " ", "1"}, {"e0 123", " -", "3"}, {"e0 0 123", " ", "5"}, {"e0 0-123", " ", "4"}, {"e0 0 -123", " ", "5"},
                {"e0 0-1 123", " ", "7"}, {"e0 0-1 5 123", " ;", "9"}, {"k123", " ;", "1"}, {"k1 123", " ;", "3"}};
        for (String[] text : full) {
            for (int c = 0; c <= 127; c++) {
                nextByte(text[0], (char) c, text[1], isFigure((char) c) ? Integer.parseInt(text[2]) : text[0].length());
            }
            fault(text[0] + "45", Integer.parseInt(text[2]));
            fault(text[0] + "4 ;", Integer.parseInt(text[2]));
            fault(text[0] + "4-x", Integer.parseInt(text[2]));
        }
        says("a byte behind a - that is no figure: itself");
        fault("e0 0 - 7 0 0;", 6);
        fault("e0 0 --7 0 0;", 6);
        fault("e0 0--", 5);
        fault("e0 0 -;", 6);
        says("the first byte that can not stand there");
        fault("x y", 0);
        fault("h1;x;y", 3);
        fault("h1234;x", 1);
        fault("h1x1234;", 2);
        fault("h1;;", 3);
        fault("H1;", 0);
    }

    private static void nextByte(String begun, char c, String good, int place) {
        String text = begun + c;
        String told = "reads \"" + begun + "\" and byte " + (int) c;
        int got = reads(new FuguePlan(), text);
        if (good.indexOf(c) < 0) due(told, got, -10 - place);
        else if (c == ';' || c == ' ' && begun.strip().endsWith(";")) due(told + " has a FAULT", got < 0 && got > -1000 ? 1 : 0, 0);
        else due(told, got, -10 - text.length());
    }

    private static void tooEarly() {
        says("the TEXT's length, if it ends too early (an empty one, too).");
        fault("", 0);
        fault(" ", 1);
        fault("   ", 3);
        String text = "l0:14 2, 16 2 ;l 1 ; e0 0 -7 8 1;h10 ; t 6;m1;k 5 17 ; ";
        for (int length = 0; length <= text.length(); length++) {
            String begun = text.substring(0, length);
            FuguePlan x = new FuguePlan();
            int ended = begun.replaceAll("[^;]", "").length();
            due("reads \"" + begun + "\"", reads(x, begun), begun.strip().endsWith(";") ? ended : -10 - length);
        }
    }

    private static FuguePlan withPlan() {
        FuguePlan x = withLine(5, 1, 6, 2);
        x.enters(0, 4, -7, 9, 2);
        x.visits(4);
        x.sets(0, 2);
        return x;
    }

    private static void nothingIsDone() {
        says("If there is one, nothing is done.");
        String all = "l1:9 1;e1 0 0 0 0;h9;t5;m7;k1 2;l2:1 1,2 2;";
        String[] ends = {"x", "h", "h1", "h1234", "e0 0-;", "k1 2 3,"};
        int[] places = {0, 1, 2, 1, 5, 6};
        for (int n = 0; n < ends.length; n++) unchanged(all + ends[n], -10 - all.length() - places[n]);
        unchanged("", -10);
        unchanged("h99;x", -14);
        unchanged("h99;h1", -16);

        says("stops all: nothing is done.");
        for (String end : new String[] {"l4;", "e1 0 0 0 0;", "h11;", "t7;", "m0;", "m9;", "k24;", "k1 1;", "l2:1 1,1 5;", "l1;"}) {
            unchanged(all + end, -1007);
            unchanged(all + end + "h1;h12;", -1007);
        }
        for (String text : new String[] {"l4;", "l0;", "e1 0 0 0 0;", "e0 0 0 12 2;", "h11;", "k24;"}) unchanged(text, -1000);
    }

    /** THE TEXT does nothing, and stays; no STATE comes, nothing is counted. */
    private static void unchanged(String text, int want) {
        FuguePlan x = typed(withPlan(), text);
        FuguePlan twin = typed(withPlan(), text);
        due("reads \"" + text + "\"", x.reads(), want);
        due("the counts behind \"" + text + "\"", counts(x), counts(twin));
        due("all on paper behind \"" + text + "\"", paper(x), paper(twin));
        due("digest behind \"" + text + "\"", x.digest(), twin.digest());
        due("again", x.reads(), want);
        due("back behind \"" + text + "\"", x.back(), twin.back());
        due("one STATE back behind \"" + text + "\"", paper(x), paper(twin));
    }

    private static FuguePlan fourNotes() {
        FuguePlan x = new FuguePlan();
        for (int l = 0; l < 4; l++) x.note(l, 5, 1);
        return x;
    }

    private static void stops(String text, int want) {
        due("reads \"" + text + "\"", reads(fourNotes(), text), want);
    }

    private static void whatStops() {
        says("One that could not be done by calls (a number not as told, a LINE that an ENTRY has, too many ..) stops all: nothing is done.");
        String[] good = {"l0;", "l3;", "l3:0 1;", "l3:27 4;", "l3:5 2,27 4;", "e0 0 0 0 0;", "e3 0 0 0 0;", "e0 4 0 0 0;", "e0 0 21 0 0;",
            "e0 0-21 0 0;", "e0 0 0 199 0;", "e0 0 0 0 3;", "h0;", "h10;", "t0;", "t6;", "m1;", "m8;", "k0;", "k23;", "k1 2 3 4 5;"};
        String[] wrong = {"l4;", "l012;", "l999;", "l4:0 1;", "l3:28 1;", "l3:999 1;", "l3:0 0;", "l3:0 5;", "l3:0 999;", "l3:5 2,28 4;",
            "l3:5 2,27 5;", "e4 0 0 0 0;", "e0 5 0 0 0;", "e0 0 22 0 0;", "e0 0-22 0 0;", "e0 0-999 0 0;", "e0 0 0 200 0;", "e0 0 0 0 4;",
            "e999 0 0 0 0;", "h11;", "h999;", "t7;", "m0;", "m9;", "k24;", "k999;", "k1 2 3 4 5 6;", "k5 5;", "k1 2 3 4 1;", "k1 24;"};
        for (String text : good) stops(text, 1);
        for (String text : wrong) {
            stops(text, -1000);
            stops("h1;" + text, -1001);
            stops("k;k;k;k;k;k;k;k;k;k;" + text + "k;", -1010);
        }
        stops("l0:1 1" + ",1 1".repeat(9) + ";", 1);
        stops("l0:1 1" + ",1 1".repeat(10) + ";", -1000);
        stops("l0;e0 0 0 0 0;", -1001);
        stops("e0 0 0 0 0;l0;", -1001);
        stops("e0 0 0 0 0;l0:5 1;", -1001);
        stops("e0 0 0 0 0;l1;", 2);
        stops("e0 0 0 0 0;e1 0 0 0 0;", -1001);
        stops("e0 0 0 0 0;e1 0 0 1 0;", 2);
        stops("e0 0 0 0 0;e1 0 0 0 1;", 2);
        FuguePlan x = fourNotes();
        due("nine ENTRIES", reads(x, "e0 0 0 0 0;e0 0 0 1 0;e0 0 0 2 0;e0 0 0 3 0;e0 0 0 4 0;e0 0 0 5 0;e0 0 0 6 0;e0 0 0 7 0;e0 0 0 8 0;"), 9);
        due("the tenth, the eleventh", reads(x, "e0 0 0 9 0;e0 0 0 10 0;"), -1001);
        due("there are nine", x.told(4), 9);
        due("the tenth", reads(x, "e0 0 0 10 0;"), 1);
        due("the eleventh", reads(x, "e0 0 0 9 0;"), -1000);
        x = fourNotes();
        due("what was 0 is no refusal", reads(x, "h0;h0;h1;t0;t0;t1;t0;m1;"), 8);
        for (int k = 0; k < 5; k++) x.visits(k);
        due("five KEYS for five", reads(x, "k 5 6 7 8 9;"), 1);
        asByCalls();
    }

    private static void asByCalls() {
        FuguePlan x = withPlan();
        due("all of it", reads(x, "l1:9 1,8 4;l2;e1 3 21 199 0;h10;t5;m7;k20 1;"), 7);
        FuguePlan y = withPlan();
        notes(y, 1, 9, 1, 8, 4);
        y.enters(1, 3, 21, 199, 0);
        y.sets(0, 10);
        y.sets(1, 5);
        y.sets(2, 7);
        y.skips(4);
        y.visits(20);
        y.visits(1);
        due("as by calls", paper(x), paper(y));
    }

    // ---- states

    private static void states() {
        says("each call told S, if it is not refused, leaves one, also if nothing changes by it, to go back to (LINES, ENTRIES, HEAD, TONIC, METER,"
                + " HOME, VISITS), 5 at most, older ones lost.");
        Call[] told = {x -> x.note(1, 5, 1), x -> x.drop(0, 0), x -> x.empties(0), x -> x.draw(0, 0, 1), x -> x.sets(0, 9), x -> x.sets(1, 6),
            x -> x.sets(2, 8), x -> x.sets(3, 5), x -> x.enters(0, 0, 0, 0, 0), x -> x.leaves(0), x -> x.lays(2), x -> x.visits(5),
            x -> x.skips(4), FuguePlan::reads};
        int[] answers = {0, 1, 2, 1, 3, 0, 4, 0, 0, 0, 2, 2, 0, 1};
        for (int n = 0; n < told.length; n++) {
            boolean isLeaving = n == 9;
            leavesState(() -> smallPlan(isLeaving), "call " + n + " told S", told[n], answers[n]);
        }
        String[] nothing = {"empties(3)", "sets(0, 3)", "sets(1, 0)", "sets(2, 4)", "sets(3, 0)", "draw(3, 0, 1) again", "lays(2) again", "reads()"};
        Call[] same = {x -> x.empties(3), x -> x.sets(0, 3), x -> x.sets(1, 0), x -> x.sets(2, 4), x -> x.sets(3, 0), x -> x.draw(3, 0, 1),
            x -> x.lays(2), FuguePlan::reads};
        int[] due = {0, 3, 0, 4, 0, 1, 2, 1};
        for (int n = 0; n < same.length; n++) {
            Call call = same[n];
            boolean isAgain = n == 5 || n == 6;
            leavesState(() -> again(call, isAgain), "nothing changes: " + nothing[n], call, due[n]);
        }
        noState();
        fiveAtMost();
        allIsTakenBack();
    }

    /** A LINE of two NOTES, a KEY of VISITS, a text to read, perhaps an ENTRY. */
    private static FuguePlan smallPlan(boolean hasEntry) {
        FuguePlan x = withLine(5, 1, 6, 2);
        x.visits(4);
        if (hasEntry) x.enters(0, 0, 0, 0, 0);
        return typed(x, "h3;");
    }

    private static FuguePlan again(Call call, boolean isDone) {
        FuguePlan x = smallPlan(false);
        if (isDone) call.ask(x);
        return x;
    }

    private static void noState() {
        says("each call told S, if it is not refused, leaves one");
        Call[] questions = {x -> x.noteOf(0, 0, 0), x -> x.line(0, 1), x -> x.step(0, 0, 0, 0), x -> x.entry(0, 1), x -> x.sounds(0, 0),
            x -> x.faults(0, 1, 3), x -> x.all(3), x -> x.first(0), x -> x.stretto(0, 0, 0, 1, 3), x -> x.strettos(0, 0, 1), x -> x.closest(0, 0),
            x -> x.inverted(0, 1, 2, 3), x -> x.inversions(0, 1) & 1, x -> x.order(2, 1), x -> x.best(2, 0), x -> x.way(0, 6), x -> x.next(0, 6),
            x -> x.path(0), x -> x.type(32), FuguePlan::clear, x -> x.told(5)};
        int[] due = {5, 2, 5, 0, 5, 3, 3, 0, 1, 6, 1, 1, 1, 0, 1, 6, 1, 4, 4, 3, 3};
        for (int n = 0; n < questions.length; n++) answers(BoundsOfTextsTest::twoEntries, "question " + n, questions[n], due[n]);
    }

    /** 5 6 6 in VOICE 0, 7 8 8 in VOICE 1: three CROSSINGS; one STATE, so that one more would be seen. */
    private static FuguePlan twoEntries() {
        FuguePlan x = typed(new FuguePlan(), "l0:5 1,6 2;k4;m8;e0 0 0 0 0;e0 0 2 0 1;");
        x.reads();
        return typed(x, "h3;");
    }

    private static void fiveAtMost() {
        says("5 at most, older ones lost.");
        for (int calls = 0; calls <= 12; calls++) {
            FuguePlan x = new FuguePlan();
            for (int n = 1; n <= calls; n++) x.note(n % 4, n, 1);
            int states = Math.min(5, calls);
            due("STATES behind " + calls + " calls", x.told(10), states);
            for (int left = states - 1; left >= 0; left--) {
                due("back() behind " + calls + " calls", x.back(), left);
                int notes = 0;
                for (int l = 0; l < 4; l++) notes += x.line(l, 1);
                due("NOTES, " + left + " STATES left", notes, calls - states + left);
            }
            due("no more", x.back(), NO);
            due("no more", x.told(10), 0);
        }
        FuguePlan x = new FuguePlan();
        for (int n = 1; n <= 5; n++) x.sets(0, n);
        for (int n = 0; n < 3; n++) x.back();
        due("two are left", x.told(10), 2);
        for (int n = 6; n <= 8; n++) x.sets(0, n);
        due("three more", x.told(10), 5);
        int[] heads = {7, 6, 2, 1, 3};
        for (int head : heads) {
            x.back();
            due("HEAD", x.told(5), head);
        }
        due("none", x.back(), NO);
    }

    private static void allIsTakenBack() {
        says("to go back to (LINES, ENTRIES, HEAD, TONIC, METER, HOME, VISITS)");
        FuguePlan x = withPlan();
        x.told(99);
        x.skips(9);
        FuguePlan twin = withPlan();
        due("all changed by one call", reads(x, "l1:9 1,8 4;l3:1 1;e1 3 21 199 0;e1 3 21 0 0;h10;t5;m7;k20 1;"), 8);
        x.clear();
        x.type('h');
        due("back()", x.back(), 4);
        due("all on paper", paper(x), paper(twin));
        due("counts and THE TEXT are none of it", counts(x), List.of(1, 1, 0, 1, 4));
        x = new FuguePlan();
        x.sets(3, 9);
        x.sets(3, 8);
        x.back();
        due("HOME", x.told(8), 9);
        x.back();
        due("HOME", x.told(8), 0);
    }

    // ---- refused calls

    private static void refusals() {
        says("Refused (a question, too), changing nothing but how often, the first of: BAD -2 a number is not as told; NO -3 as told; FULL -4 as told.");
        FuguePlan x = new FuguePlan();
        x.noteOf(0, 0, 0);
        x.line(4, 0);
        x.step(0, 0, 22, 0);
        x.entry(0, 0);
        x.sounds(0, -1);
        x.faults(0, 0, 0);
        x.all(6);
        x.first(3);
        x.stretto(0, 0, 0, 1, 0);
        x.strettos(0, 5, 0);
        x.closest(0, 3);
        x.inverted(0, 0, 0, 0);
        x.inversions(0, 0);
        x.order(2, 2);
        x.best(1, 0);
        x.way(0, 24);
        x.next(24, 0);
        x.path(-2);
        x.told(11);
        due("each question counts, BAD", x.told(0), 19);
        x.order(2, 1);
        x.best(2, 0);
        due("each question counts, NO", x.told(1), 2);
        due("none is FULL", x.told(2), 0);
        due("no STATE", x.told(10), 0);

        says("By what THE TEXT tells, by a FAULT of it nothing counts (type() counts as any call).");
        for (String text : new String[] {"h11;", "e0 0 0 0 0;", "k1 2 3 4 5 6;", "k1 1;", "x", ""}) {
            x = new FuguePlan();
            due("reads \"" + text + "\"", reads(x, text) < 0 ? 1 : 0, 1);
            due("the counts behind \"" + text + "\"", counts(x), List.of(0, 0, 0, text.length(), 0));
        }
        x = typed(new FuguePlan(), "k".repeat(120));
        x.type(128);
        x.type(-1);
        x.type(107);
        due("type() counts", counts(x), List.of(2, 0, 1, 120, 0));
    }

    // ---- 30 to 35

    private static void promises() {
        says("A byte (0 .. 127) comes behind THE TEXT: how many it has. BAD; FULL: 120.");
        bounds(EMPTY, "type", (x, a) -> x.type(a[0]), new int[] {32}, new int[][] {{0, 127}});
        for (int many : new int[] {0, 1, 118, 119}) answers(() -> typed(new FuguePlan(), " ".repeat(many)), "type(107)", p -> p.type(107), many + 1);
        full(() -> typed(new FuguePlan(), " ".repeat(120)), "the 121st", p -> p.type(107));
        bad(() -> typed(new FuguePlan(), " ".repeat(120)), "BAD ahead of FULL", p -> p.type(128));
        bad(() -> typed(new FuguePlan(), " ".repeat(120)), "BAD ahead of FULL", p -> p.type(-1));
        full(() -> typed(new FuguePlan(), "k;".repeat(60)), "sixty ORDERS, not spoiled by it", p -> p.type(107));

        says("THE TEXT is empty: how many it had.");
        for (int many : new int[] {0, 1, 119, 120}) answers(() -> typed(new FuguePlan(), " ".repeat(many)), "clear()", FuguePlan::clear, many);
        FuguePlan x = typed(new FuguePlan(), "k;".repeat(60));
        x.clear();
        due("nothing is left", x.reads(), -10);
        due("one byte of it", x.type('h'), 1);
        due("it alone", x.reads(), -11);

        says("ORDERS OF WORK are done (THE TEXT stays): how many. S (one STATE for all). -10 less the FAULT; -1000 less the number (0 on) of the one"
                + " that stops all.");
        x = typed(new FuguePlan(), "h1;h2;h10;");
        due("three", x.reads(), 3);
        due("one STATE", x.told(10), 1);
        due("THE TEXT stays", x.told(3), 10);
        due("again", x.reads(), 3);
        due("one more", x.told(10), 2);
        due("back()", x.back(), 1);
        due("HEAD", x.told(5), 10);
        due("back()", x.back(), 0);
        due("HEAD", x.told(5), 3);
        leavesState(() -> typed(new FuguePlan(), "k;".repeat(60)), "sixty", FuguePlan::reads, 60);
        x = typed(new FuguePlan(), "l3:1 1" + ",2 2".repeat(9) + ";" + "k1 2 3 4 5;".repeat(5));
        for (int n = 1; n <= 200; n++) due("again and again", x.reads(), 6);
        due("ten NOTES", x.line(3, 1), 10);
        due("five KEYS", x.told(9), 5);
        due("five STATES", x.told(10), 5);
        back();
        told();
        digest();
    }

    private static void back() {
        says("A STATE back: how many can be yet. NO: none.");
        no(EMPTY, "none", FuguePlan::back);
        no(() -> gone(1), "none is left", FuguePlan::back);
        no(() -> gone(5), "none is left of five", FuguePlan::back);
        for (int calls = 1; calls <= 7; calls++) {
            FuguePlan x = new FuguePlan();
            for (int n = 0; n < calls; n++) x.sets(0, n);
            due("back() behind " + calls, x.back(), Math.min(5, calls) - 1);
            due("it leaves none itself", x.told(10), Math.min(5, calls) - 1);
        }
    }

    /** So many STATES came, and all are gone back to. */
    private static FuguePlan gone(int states) {
        FuguePlan x = new FuguePlan();
        for (int n = 0; n < states; n++) x.sets(0, n);
        for (int n = 0; n < states; n++) x.back();
        return x;
    }

    private static void told() {
        says("How often refused: BAD (0), NO (1), FULL (2); bytes of THE TEXT (3), ENTRIES (4), HEAD (5), TONIC (6), METER (7), HOME (8), VISITS (9),"
                + " STATES (10). BAD.");
        bounds(EMPTY, "told", (x, a) -> x.told(a[0]), new int[] {0}, new int[][] {{0, 10}});
        FuguePlan x = withLine(5, 1);
        for (int e = 0; e < 11; e++) x.enters(0, 0, 0, e, 0);
        int[][] greatest = {{0, 10}, {1, 6}, {2, 8}, {3, 23}};
        for (int[] g : greatest) x.sets(g[0], g[1]);
        for (int k = 0; k < 7; k++) x.visits(k);
        for (int n = 0; n < 121; n++) x.type(32);
        x.told(-1);
        x.told(11);
        x.visits(0);
        int[] most = {2, 1, 4, 120, 10, 10, 6, 8, 23, 5, 5};
        for (int what = 0; what <= 10; what++) due("the most: " + callOf("told", what), x.told(what), most[what]);
    }

    private static void digest() {
        says("h = 2267; then h = 31 h + v for each v: told(0) to told(10); LINE by LINE line(0), line(1), of its NOTES noteOf(0) to noteOf(3); of"
                + " ENTRIES entry(0) to entry(5); all(0) to all(5); path(NONE).");
        digestIs(new FuguePlan());
        FuguePlan x = new FuguePlan();
        for (int l = 0; l < 4; l++) tenNotes(x, l, 27 - l, 4);
        digestIs(x);
        x = withLine(27, 4);
        for (int e = 0; e < 10; e++) x.enters(0, 4, e, 20 * e, e % 4);
        for (int k = 19; k < 24; k++) x.visits(k);
        x.told(11);
        digestIs(x);
        digestIs(withPlan());
        FuguePlan y = withPlan();
        due("it leaves all as it is", y.digest(), y.digest());
    }

    private static void digestIs(FuguePlan x) {
        long got = x.digest();
        long h = 2267;
        for (int what = 0; what <= 10; what++) h = 31 * h + x.told(what);
        for (int l = 0; l < 4; l++) {
            h = 31 * (31 * h + x.line(l, 0)) + x.line(l, 1);
            for (int i = 0; i < x.line(l, 1); i++) {
                for (int what = 0; what <= 3; what++) h = 31 * h + x.noteOf(l, i, what);
            }
        }
        for (int e = 0; e < x.told(4); e++) {
            for (int what = 0; what <= 5; what++) h = 31 * h + x.entry(e, what);
        }
        for (int what = 0; what <= 5; what++) h = 31 * h + x.all(what);
        due("digest()", got, 31 * h + x.path(NONE));
    }
}
