import java.util.ArrayDeque;
import java.util.ArrayList;
import java.util.Arrays;
import java.util.Deque;
import java.util.List;
import java.util.Random;
import java.util.TreeMap;
import java.util.TreeSet;
import java.util.regex.Matcher;
import java.util.regex.Pattern;

/** Random runs of 512 calls, each answer held against a plainer program written from the document alone. */
public final class ModelTest {
    private static final int RUNS = 3000;
    private static final int CALLS = 512;

    public static void main(String[] args) {
        int wrong = 0;
        for (int seed = 1; seed <= RUNS && wrong < 10; seed++) {
            if (!agrees(seed)) wrong++;
        }
        System.out.println(wrong == 0 ? RUNS + " runs agree" : wrong + " runs do not agree");
        if (wrong != 0) System.exit(1);
    }

    private static boolean agrees(int seed) {
        Caller caller = new Caller(seed);
        for (int n = 0; n < CALLS; n++) {
            caller.pick();
            if (caller.got != caller.want) {
                System.out.println("seed " + seed + ", call " + n + ": " + caller.call + " answered " + caller.got
                        + ", the model says " + caller.want);
                return false;
            }
        }
        return true;
    }

    /** Picks calls, asks both. */
    private static final class Caller {
        final Random random;
        final FuguePlan x = new FuguePlan();
        final Model y = new Model();
        final String taste;
        String pending = "";
        String call = "";
        long got;
        long want;

        Caller(int seed) {
            random = new Random(seed);
            String[] tastes = {"llleeeqqqqsoovkkxd", "leeeeeeeqqqqqqqq", "lllsssssooo", "kkkkkkb", "xxxxxxxxxxxxxlekb", "lobqqx"};
            taste = tastes[seed % tastes.length];
        }

        /** Mostly within the bounds, at times beside them, seldom far off. */
        int some(int least, int most) {
            int luck = random.nextInt(60);
            if (luck == 0) return most + 1;
            if (luck == 1) return least - 1;
            if (luck == 2 && random.nextInt(4) == 0) return random.nextBoolean() ? Integer.MAX_VALUE : Integer.MIN_VALUE;
            return least + random.nextInt(most - least + 1);
        }

        int someMove() {
            return random.nextInt(3) == 0 ? some(-21, 21) : 7 * random.nextInt(5) - 14 + 4 * random.nextInt(2);
        }

        int someStart() {
            return random.nextInt(3) == 0 ? some(0, 199) : some(0, 40);
        }

        int someEntry() {
            return some(0, Math.max(0, y.plan.entries.size() - 1));
        }

        void told(String name, long gotten, long wanted, int... args) {
            call = name + Arrays.toString(args);
            got = gotten;
            want = wanted;
        }

        void pick() {
            if (!pending.isEmpty()) {
                type();
                return;
            }
            switch (taste.charAt(random.nextInt(taste.length()))) {
                case 'l': pickLine(); break;
                case 'e': pickEntry(); break;
                case 'q': pickQuestion(); break;
                case 's': pickStretto(); break;
                case 'o': pickOrder(); break;
                case 'k': pickKey(); break;
                case 'b': told("back", x.back(), y.back()); break;
                case 'x': pickText(); break;
                default: pickTold(); break;
            }
        }

        void pickTold() {
            int what = some(0, 10);
            if (random.nextBoolean()) told("told", x.told(what), y.told(what), what);
            else told("digest", x.digest(), y.digest());
        }

        void pickLine() {
            int l = some(0, 3);
            int i = some(0, 9);
            int step = random.nextInt(3) == 0 ? some(0, 27) : some(10, 16);
            int ticks = some(1, 4);
            int what = some(0, 4);
            int m = someMove();
            int t = some(0, 45);
            switch (random.nextInt(13)) {
                case 0: told("drop", x.drop(l, i), y.drop(l, i), l, i); break;
                case 1: told("empties", x.empties(l), y.empties(l), l); break;
                case 2: {
                    int drawn = some(0, 999999);
                    int n = some(1, 10);
                    told("draw", x.draw(l, drawn, n), y.draw(l, drawn, n), l, drawn, n);
                    break;
                }
                case 3: {
                    int kind = some(0, 3);
                    int v = some(0, new int[] {10, 6, 8, 23}[random.nextInt(4)]);
                    told("sets", x.sets(kind, v), y.sets(kind, v), kind, v);
                    break;
                }
                case 4: case 5: told("noteOf", x.noteOf(l, i, what), y.noteOf(l, i, what), l, i, what); break;
                case 6: told("line", x.line(l, what), y.line(l, what), l, what); break;
                case 7: case 8: told("step", x.step(l, what, m, t), y.step(l, what, m, t), l, what, m, t); break;
                case 9: pickTold(); break;
                default: told("note", x.note(l, step, ticks), y.note(l, step, ticks), l, step, ticks); break;
            }
        }

        void pickEntry() {
            int e = someEntry();
            int l = some(0, 3);
            int f = some(0, 4);
            int m = someMove();
            int s = someStart();
            int v = some(0, 3);
            if (random.nextInt(12) == 0) told("leaves", x.leaves(e), y.leaves(e), e);
            else told("enters", x.enters(l, f, m, s, v), y.enters(l, f, m, s, v), l, f, m, s, v);
        }

        void pickQuestion() {
            int e = someEntry();
            int g = someEntry();
            int what = some(0, 5);
            int v = some(0, 3);
            int t = some(0, 60);
            switch (random.nextInt(6)) {
                case 0: told("entry", x.entry(e, what), y.entry(e, what), e, what); break;
                case 1: told("sounds", x.sounds(v, t), y.sounds(v, t), v, t); break;
                case 2: told("faults", x.faults(e, g, v), y.faults(e, g, v), e, g, v); break;
                case 3: told("all", x.all(what), y.all(what), what); break;
                case 4: told("first", x.first(what % 4), y.first(what % 4), what % 4); break;
                default: pickTold(); break;
            }
        }

        void pickStretto() {
            int l = some(0, 3);
            int f = some(0, 4);
            int m = someMove();
            int d = some(1, 20);
            int b = some(0, 3);
            int n = some(0, 20);
            switch (random.nextInt(5)) {
                case 0: told("stretto", x.stretto(l, f, m, d, b), y.stretto(l, f, m, d, b), l, f, m, d, b); break;
                case 1: told("strettos", x.strettos(l, f, m), y.strettos(l, f, m), l, f, m); break;
                case 2: told("closest", x.closest(l, b), y.closest(l, b), l, b); break;
                case 3: told("inverted", x.inverted(l, b, n, f), y.inverted(l, b, n, f), l, b, n, f); break;
                default: told("inversions", x.inversions(l, b), y.inversions(l, b), l, b); break;
            }
        }

        void pickOrder() {
            int v = some(2, 4);
            int what = some(0, 1);
            int[] rows = {1, 10, 12, 21, 102, 120, 201, 210, 123, 213, 1032, 2310, 3210, 2031, 3012};
            int row = random.nextInt(8) == 0 ? some(0, 4000) : rows[random.nextInt(rows.length)];
            switch (random.nextInt(4)) {
                case 0: case 1: told("order", x.order(v, row), y.order(v, row), v, row); break;
                case 2: told("best", x.best(v, what), y.best(v, what), v, what); break;
                default: told("lays", x.lays(v), y.lays(v), v); break;
            }
        }

        void pickKey() {
            int a = some(0, 23);
            int b = some(0, 23);
            int i = some(-1, 5);
            switch (random.nextInt(8)) {
                case 0: told("way", x.way(a, b), y.way(a, b), a, b); break;
                case 1: told("next", x.next(a, b), y.next(a, b), a, b); break;
                case 2: case 3: told("visits", x.visits(a), y.visits(a), a); break;
                case 4: {
                    int k = y.plan.visits.isEmpty() || random.nextInt(4) == 0 ? a : y.plan.visits.first();
                    told("skips", x.skips(k), y.skips(k), k);
                    break;
                }
                case 5: told("sets", x.sets(3, a), y.sets(3, a), 3, a); break;
                default: told("path", x.path(i), y.path(i), i); break;
            }
        }

        void pickText() {
            switch (random.nextInt(5)) {
                case 0: told("clear", x.clear(), y.clear()); break;
                case 1: {
                    int c = some(0, 127);
                    told("type", x.type(c), y.type(c), c);
                    break;
                }
                case 2: told("reads", x.reads(), y.reads()); break;
                case 3: pickTold(); break;
                default:
                    told("clear", x.clear(), y.clear());
                    pending = new Writer(random).text() + (char) 1000;
                    break;
            }
        }

        void type() {
            int c = pending.charAt(0);
            pending = pending.substring(1);
            if (c == 1000) told("reads of \"" + y.text + "\"", x.reads(), y.reads());
            else told("type", x.type(c), y.type(c), c);
        }
    }

    /** Texts, most of them right. */
    private static final class Writer {
        final Random random;
        final StringBuilder out = new StringBuilder();
        final boolean spaced;

        Writer(Random random) {
            this.random = random;
            spaced = random.nextBoolean();
        }

        String text() {
            int orders = 1 + random.nextInt(6);
            for (int n = 0; n < orders; n++) order();
            if (random.nextInt(3) == 0) spoil();
            return out.toString();
        }

        void spoil() {
            String signs = "0123456789 -:,;lehtmkx";
            char c = signs.charAt(random.nextInt(signs.length()));
            int at = random.nextInt(out.length());
            int luck = random.nextInt(4);
            if (luck == 0) out.deleteCharAt(at);
            else if (luck == 1) out.setCharAt(at, c);
            else if (luck == 2) out.insert(at, c);
            else out.setLength(at);
        }

        void blanks() {
            while (spaced && random.nextInt(4) == 0) out.append(' ');
        }

        void sign(char c) {
            blanks();
            out.append(c);
            blanks();
        }

        void number(int least, int most) {
            int v = least + random.nextInt(most - least + 1);
            if (random.nextInt(40) == 0) v = random.nextInt(1300);
            blanks();
            char last = out.length() == 0 ? ' ' : out.charAt(out.length() - 1);
            if (last >= '0' && last <= '9' && v >= 0 && random.nextInt(40) != 0) out.append(' ');
            if (v >= 0 && random.nextInt(12) == 0) out.append('0');
            out.append(v);
            blanks();
        }

        void order() {
            switch (random.nextInt(7)) {
                case 0: case 1: line(); break;
                case 2: case 3: entry(); break;
                case 4: keys(); break;
                case 5: sign("htm".charAt(random.nextInt(3))); number(1, 7); break;
                default: sign('h'); number(0, 10); break;
            }
            sign(';');
        }

        void line() {
            sign('l');
            number(0, 3);
            int notes = random.nextInt(5) == 0 ? random.nextInt(13) : random.nextInt(4);
            for (int i = 0; i < notes; i++) {
                sign(i == 0 ? ':' : ',');
                number(0, 27);
                number(1, 4);
            }
        }

        void entry() {
            sign('e');
            number(0, 3);
            number(0, 4);
            number(-21, 21);
            number(0, 199);
            number(0, 3);
        }

        void keys() {
            sign('k');
            int keys = random.nextInt(7);
            for (int i = 0; i < keys; i++) number(0, 23);
        }
    }

    /** What a STATE holds. */
    private static final class Paper {
        final List<List<int[]>> lines = new ArrayList<>();
        final List<int[]> entries = new ArrayList<>();
        final TreeSet<Integer> visits = new TreeSet<>();
        final int[] values = {3, 0, 4, 0};

        Paper() {
            for (int l = 0; l < 4; l++) lines.add(new ArrayList<>());
        }

        Paper copy() {
            Paper p = new Paper();
            for (int l = 0; l < 4; l++) p.lines.get(l).addAll(lines.get(l));
            p.entries.addAll(entries);
            p.visits.addAll(visits);
            System.arraycopy(values, 0, p.values, 0, 4);
            return p;
        }
    }

    private static final class Model {
        static final int BAD = -2, NO = -3, FULL = -4;
        static final String N = "\\d{1,3}";
        static final String LINE = "l *" + N + " *(: *" + N + " +" + N + " *(, *" + N + " +" + N + " *)*)?;";
        static final String ENTRY = "e *" + N + " +" + N + "( +" + N + "| *-" + N + ") +" + N + " +" + N + " *;";
        static final String VALUE = "[htm] *" + N + " *;";
        static final String KEYS = "k *(" + N + "( +" + N + ")* *)?;";
        static final Pattern TEXT = Pattern.compile(" *((" + LINE + "|" + ENTRY + "|" + VALUE + "|" + KEYS + ") *)+");

        Paper plan = new Paper();
        final Deque<Paper> states = new ArrayDeque<>();
        final int[] refusals = new int[3];
        String text = "";

        static boolean in(int v, int least, int most) {
            return v >= least && v <= most;
        }

        int refuse(int why) {
            refusals[-2 - why]++;
            return why;
        }

        /** A call told S on a copy of the plan: kept only if it is not refused. */
        int settle(Paper changed, int answer) {
            if (answer < 0) return refuse(answer);
            states.addLast(plan);
            if (states.size() > 5) states.removeFirst();
            plan = changed;
            return answer;
        }

        static boolean isUsed(Paper p, int l) {
            return p.entries.stream().anyMatch(e -> e[0] == l);
        }

        // lines

        static int doNote(Paper p, int l, int step, int ticks) {
            if (!in(l, 0, 3) || !in(step, 0, 27) || !in(ticks, 1, 4)) return BAD;
            if (isUsed(p, l)) return NO;
            if (p.lines.get(l).size() == 10) return FULL;
            p.lines.get(l).add(new int[] {step, ticks});
            return p.lines.get(l).size() - 1;
        }

        int note(int l, int step, int ticks) {
            Paper p = plan.copy();
            return settle(p, doNote(p, l, step, ticks));
        }

        int drop(int l, int i) {
            Paper p = plan.copy();
            if (!in(l, 0, 3) || !in(i, 0, p.lines.get(l).size() - 1)) return refuse(BAD);
            if (isUsed(p, l)) return refuse(NO);
            p.lines.get(l).remove(i);
            return settle(p, p.lines.get(l).size());
        }

        static int doEmpties(Paper p, int l) {
            if (!in(l, 0, 3)) return BAD;
            if (isUsed(p, l)) return NO;
            int had = p.lines.get(l).size();
            p.lines.get(l).clear();
            return had;
        }

        int empties(int l) {
            Paper p = plan.copy();
            return settle(p, doEmpties(p, l));
        }

        int draw(int l, int seed, int n) {
            Paper p = plan.copy();
            if (!in(l, 0, 3) || !in(seed, 0, 999999) || !in(n, 1, 10)) return refuse(BAD);
            if (isUsed(p, l)) return refuse(NO);
            p.lines.get(l).clear();
            java.math.BigInteger x = java.math.BigInteger.valueOf(seed);
            int ahead = 14;
            int length = 0;
            for (int i = 0; i < n; i++) {
                x = x.multiply(java.math.BigInteger.valueOf(1103515245)).add(java.math.BigInteger.valueOf(12345))
                        .mod(java.math.BigInteger.valueOf(2147483648L));
                int step = i == 0 ? 14 : Math.min(27, Math.max(0, ahead + x.intValue() / 65536 % 7 - 3));
                int ticks = x.intValue() / 1024 % 4 + 1;
                p.lines.get(l).add(new int[] {step, ticks});
                ahead = step;
                length += ticks;
            }
            return settle(p, length);
        }

        static int doSets(Paper p, int what, int v) {
            int[][] bounds = {{0, 10}, {0, 6}, {1, 8}, {0, 23}};
            if (!in(what, 0, 3) || !in(v, bounds[what][0], bounds[what][1])) return BAD;
            int was = p.values[what];
            p.values[what] = v;
            return was;
        }

        int sets(int what, int v) {
            Paper p = plan.copy();
            return settle(p, doSets(p, what, v));
        }

        /** The STEPS of a LINE by a FORM, a TICK each. */
        static List<Integer> ticksOf(Paper p, int l, int f, int m) {
            List<int[]> notes = p.lines.get(l);
            List<Integer> out = new ArrayList<>();
            for (int i = 0; i < notes.size(); i++) {
                int[] note = f == 3 ? notes.get(notes.size() - 1 - i) : notes.get(i);
                int step = note[0];
                if (f == 1) step = answered(p, i, note[0]);
                if (f == 2) step = notes.get(0)[0] - (note[0] - notes.get(0)[0]);
                for (int t = 0; t < note[1] * (f == 4 ? 2 : 1); t++) out.add(step + m);
            }
            return out;
        }

        static int answered(Paper p, int i, int step) {
            int over = (step - p.values[1] + 700) % 7;
            return step + (i < p.values[0] && over == 4 ? 3 : 4);
        }

        int noteOf(int l, int i, int what) {
            if (!in(l, 0, 3) || !in(i, 0, plan.lines.get(l).size() - 1) || !in(what, 0, 3)) return refuse(BAD);
            List<int[]> notes = plan.lines.get(l);
            int from = 0;
            for (int j = 0; j < i; j++) from += notes.get(j)[1];
            return new int[] {notes.get(i)[0], notes.get(i)[1], from, answered(plan, i, notes.get(i)[0])}[what];
        }

        int line(int l, int what) {
            if (!in(l, 0, 3) || !in(what, 0, 4)) return refuse(BAD);
            List<Integer> ticks = ticksOf(plan, l, 0, 0);
            if (what == 0) return ticks.size();
            if (what == 1) return plan.lines.get(l).size();
            if (what == 2) return ticks.stream().mapToInt(s -> s).min().orElse(-1);
            if (what == 3) return ticks.stream().mapToInt(s -> s).max().orElse(-1);
            return (int) plan.entries.stream().filter(e -> e[0] == l).count();
        }

        int step(int l, int f, int m, int t) {
            if (!in(l, 0, 3) || !in(f, 0, 4) || !in(m, -21, 21) || t < 0) {
                refuse(BAD);
                return -2000;
            }
            List<Integer> ticks = ticksOf(plan, l, f, m);
            return t < ticks.size() ? ticks.get(t) : -1000;
        }

        // entries: LINE, FORM, MOVE, START, VOICE

        static TreeMap<Integer, Integer> heard(Paper p, int[] e) {
            TreeMap<Integer, Integer> out = new TreeMap<>();
            List<Integer> ticks = ticksOf(p, e[0], e[1], e[2]);
            for (int t = 0; t < ticks.size(); t++) out.put(e[3] + t, ticks.get(t));
            return out;
        }

        static int doEnters(Paper p, int[] e) {
            if (!in(e[0], 0, 3) || !in(e[1], 0, 4) || !in(e[2], -21, 21) || !in(e[3], 0, 199) || !in(e[4], 0, 3)) return BAD;
            if (p.lines.get(e[0]).isEmpty()) return NO;
            for (int[] other : p.entries) {
                TreeSet<Integer> both = new TreeSet<>(heard(p, other).keySet());
                both.retainAll(heard(p, e).keySet());
                if (other[4] == e[4] && !both.isEmpty()) return NO;
            }
            if (p.entries.size() == 10) return FULL;
            p.entries.add(e);
            return p.entries.size() - 1;
        }

        int enters(int... e) {
            Paper p = plan.copy();
            return settle(p, doEnters(p, e));
        }

        int leaves(int e) {
            Paper p = plan.copy();
            if (!in(e, 0, p.entries.size() - 1)) return refuse(BAD);
            p.entries.remove(e);
            return settle(p, p.entries.size());
        }

        int entry(int e, int what) {
            if (!in(e, 0, plan.entries.size() - 1) || !in(what, 0, 5)) return refuse(BAD);
            int[] it = plan.entries.get(e);
            return new int[] {it[0], it[1], it[3], it[4], heard(plan, it).size(), it[2] + 21}[what];
        }

        int sounds(int v, int t) {
            if (!in(v, 0, 3) || t < 0) {
                refuse(BAD);
                return -2000;
            }
            for (int[] e : plan.entries) {
                Integer step = heard(plan, e).get(t);
                if (e[4] == v && step != null) return step;
            }
            return -1000;
        }

        /** Every FAULT of two SOUNDS: TICK and kind. */
        static List<int[]> faultsOf(TreeMap<Integer, Integer> up, TreeMap<Integer, Integer> low, int meter) {
            List<int[]> out = new ArrayList<>();
            for (int t : up.keySet()) {
                if (!low.containsKey(t)) continue;
                int diff = up.get(t) - low.get(t);
                int cls = ((diff % 7) + 7) % 7;
                if (t % meter == 0 && List.of(1, 3, 6).contains(cls)) out.add(new int[] {t, 0});
                if (diff < 0) out.add(new int[] {t, 1});
                if (!up.containsKey(t - 1) || !low.containsKey(t - 1)) continue;
                int a = Integer.signum(up.get(t) - up.get(t - 1));
                int b = Integer.signum(low.get(t) - low.get(t - 1));
                int before = ((up.get(t - 1) - low.get(t - 1)) % 7 + 7) % 7;
                if (a * b == 1 && cls == before && (cls == 0 || cls == 4)) out.add(new int[] {t, 2});
            }
            return out;
        }

        static List<int[]> faultsOfEntries(Paper p, int[] e, int[] g) {
            if (e[4] == g[4]) return List.of();
            if (e[4] > g[4]) return faultsOfEntries(p, g, e);
            return faultsOf(heard(p, e), heard(p, g), p.values[2]);
        }

        static int count(List<int[]> faults, int what) {
            return (int) faults.stream().filter(f -> what == 3 || f[1] == what).count();
        }

        int faults(int e, int g, int what) {
            int last = plan.entries.size() - 1;
            if (!in(e, 0, last) || !in(g, 0, last) || e == g || !in(what, 0, 3)) return refuse(BAD);
            return count(faultsOfEntries(plan, plan.entries.get(e), plan.entries.get(g)), what);
        }

        static List<int[]> allFaults(Paper p) {
            List<int[]> out = new ArrayList<>();
            for (int e = 0; e < p.entries.size(); e++) {
                for (int g = e + 1; g < p.entries.size(); g++) {
                    for (int[] f : faultsOfEntries(p, p.entries.get(e), p.entries.get(g))) {
                        out.add(new int[] {f[0], f[1], 10 * e + g});
                    }
                }
            }
            return out;
        }

        int all(int what) {
            if (!in(what, 0, 5)) return refuse(BAD);
            if (what < 4) return count(allFaults(plan), what);
            int[] heard = new int[300];
            for (int[] e : plan.entries) {
                for (int t : heard(plan, e).keySet()) heard[t]++;
            }
            int end = 0;
            int most = 0;
            for (int t = 0; t < 300; t++) {
                if (heard[t] > 0) end = t + 1;
                most = Math.max(most, heard[t]);
            }
            return what == 4 ? end : most;
        }

        int first(int what) {
            if (!in(what, 0, 2)) return refuse(BAD);
            List<int[]> faults = allFaults(plan);
            if (faults.isEmpty()) return -1;
            faults.sort((a, b) -> Arrays.compare(a, b));
            return faults.get(0)[what];
        }

        // strettos and inversions

        List<int[]> strettoFaults(int l, int f, int m, int d) {
            return faultsOf(heard(plan, new int[] {l, 0, 0, 0, 0}), heard(plan, new int[] {l, f, m, d, 0}), plan.values[2]);
        }

        boolean fits(int l, int f, int m, int d) {
            List<int[]> faults = strettoFaults(l, f, m, d);
            return count(faults, 0) == 0 && count(faults, 2) == 0;
        }

        int length(int l) {
            return ticksOf(plan, l, 0, 0).size();
        }

        int stretto(int l, int f, int m, int d, int what) {
            if (!in(l, 0, 3) || !in(f, 0, 4) || !in(m, -21, 21) || !in(d, 1, length(l) - 1) || !in(what, 0, 3)) return refuse(BAD);
            return what == 3 ? (fits(l, f, m, d) ? 1 : 0) : count(strettoFaults(l, f, m, d), what);
        }

        long strettos(int l, int f, int m) {
            if (!in(l, 0, 3) || !in(f, 0, 4) || !in(m, -21, 21)) return refuse(BAD);
            long out = 0;
            for (int d = 1; d < length(l); d++) out |= fits(l, f, m, d) ? 1L << d : 0;
            return out;
        }

        int closest(int l, int what) {
            if (!in(l, 0, 3) || !in(what, 0, 2)) return refuse(BAD);
            for (int d = 1; d < length(l); d++) {
                for (int f = 0; f < 5; f++) {
                    for (int size = 0; size <= 21; size++) {
                        if (fits(l, f, -size, d)) return new int[] {d, f, 21 - size}[what];
                        if (fits(l, f, size, d)) return new int[] {d, f, 21 + size}[what];
                    }
                }
            }
            return -1;
        }

        List<int[]> inversionFaults(int a, int b, int n) {
            return faultsOf(heard(plan, new int[] {b, 0, n, 0, 0}), heard(plan, new int[] {a, 0, 0, 0, 0}), plan.values[2]);
        }

        int inverted(int a, int b, int n, int what) {
            if (!in(a, 0, 3) || !in(b, 0, 3) || a == b || !in(n, 0, 20) || !in(what, 0, 3)) return refuse(BAD);
            List<int[]> faults = inversionFaults(a, b, n);
            return what == 3 ? (faults.isEmpty() ? 1 : 0) : count(faults, what);
        }

        int inversions(int a, int b) {
            if (!in(a, 0, 3) || !in(b, 0, 3) || a == b) return refuse(BAD);
            int out = 0;
            for (int n = 0; n <= 20; n++) out |= inversionFaults(a, b, n).isEmpty() ? 1 << n : 0;
            return out;
        }

        // orders

        Paper laid(String row) {
            Paper p = plan.copy();
            p.entries.clear();
            int last = row.length() - 1;
            for (int k = 0; k <= last; k++) {
                int v = row.charAt(k) - '0';
                p.entries.add(new int[] {0, k % 2, -7 * v, k * length(0), v});
                if (k < last && length(1) > 0) {
                    p.entries.add(new int[] {1, 0, -7 * v + (k % 2 == 0 ? 4 : 0), k * length(0) + length(0), v});
                }
            }
            return p;
        }

        static String rowOf(int v, int row) {
            String out = String.valueOf(row);
            while (out.length() < v) out = "0" + out;
            return out;
        }

        static boolean isRow(int v, String row) {
            for (int k = 0; k < v; k++) {
                if (row.indexOf('0' + k) < 0) return false;
            }
            return row.length() == v;
        }

        int order(int v, int row) {
            if (!in(v, 2, 4) || row < 0 || !isRow(v, rowOf(v, row))) return refuse(BAD);
            if (length(0) == 0) return refuse(NO);
            return allFaults(laid(rowOf(v, row))).size();
        }

        /** The BEST ORDER and its FAULTS, by looking at every number. */
        int[] findBest(int v) {
            int[] best = null;
            for (int row = 0; row < Math.pow(10, v); row++) {
                if (!isRow(v, rowOf(v, row))) continue;
                int faults = allFaults(laid(rowOf(v, row))).size();
                if (best == null || faults < best[1]) best = new int[] {row, faults};
            }
            return best;
        }

        int best(int v, int what) {
            if (!in(v, 2, 4) || !in(what, 0, 1)) return refuse(BAD);
            if (length(0) == 0) return refuse(NO);
            return findBest(v)[what];
        }

        int lays(int v) {
            if (!in(v, 2, 4)) return refuse(BAD);
            if (length(0) == 0) return refuse(NO);
            Paper p = laid(rowOf(v, findBest(v)[0]));
            return settle(p, p.entries.size());
        }

        // keys

        static final int[][] ROADS = new int[24][24];
        static final int[][] WAYS = new int[24][24];

        static void road(int a, int b, int length) {
            ROADS[a][b] = length;
            ROADS[b][a] = length;
        }

        static {
            for (int k = 0; k < 12; k++) {
                road(k, (k + 1) % 12, 1);
                road(12 + k, 12 + (k + 1) % 12, 1);
                road(k, k + 12, 1);
                road(k, 12 + (k + 9) % 12, 2);
            }
            for (int a = 0; a < 24; a++) {
                for (int b = 0; b < 24; b++) WAYS[a][b] = a == b ? 0 : ROADS[a][b] > 0 ? ROADS[a][b] : 999;
            }
            for (int k = 0; k < 24; k++) {
                for (int a = 0; a < 24; a++) {
                    for (int b = 0; b < 24; b++) WAYS[a][b] = Math.min(WAYS[a][b], WAYS[a][k] + WAYS[k][b]);
                }
            }
        }

        int way(int a, int b) {
            return in(a, 0, 23) && in(b, 0, 23) ? WAYS[a][b] : refuse(BAD);
        }

        int next(int a, int b) {
            if (!in(a, 0, 23) || !in(b, 0, 23)) return refuse(BAD);
            for (int k = 0; k < 24 && a != b; k++) {
                if (ROADS[a][k] > 0 && ROADS[a][k] + WAYS[k][b] == WAYS[a][b]) return k;
            }
            return -1;
        }

        static int doVisits(Paper p, int k) {
            if (!in(k, 0, 23)) return BAD;
            if (p.visits.contains(k)) return NO;
            if (p.visits.size() == 5) return FULL;
            p.visits.add(k);
            return p.visits.size();
        }

        int visits(int k) {
            Paper p = plan.copy();
            return settle(p, doVisits(p, k));
        }

        int skips(int k) {
            if (!in(k, 0, 23)) return refuse(BAD);
            Paper p = plan.copy();
            if (!p.visits.remove(k)) return refuse(NO);
            return settle(p, p.visits.size());
        }

        /** Every order of the KEYS left: the length of all, then the KEYS. */
        void tours(List<Integer> sofar, List<int[]> out) {
            if (sofar.size() == plan.visits.size()) {
                int[] tour = new int[sofar.size() + 1];
                int here = plan.values[3];
                for (int i = 0; i < sofar.size(); i++) {
                    tour[0] += WAYS[here][sofar.get(i)];
                    here = sofar.get(i);
                    tour[i + 1] = here;
                }
                tour[0] += WAYS[here][plan.values[3]];
                out.add(tour);
            }
            for (int k : plan.visits) {
                if (sofar.contains(k)) continue;
                sofar.add(k);
                tours(sofar, out);
                sofar.remove(sofar.size() - 1);
            }
        }

        int path(int i) {
            if (i < -1) {
                refuse(BAD);
                return -10;
            }
            if (i >= plan.visits.size()) return -5;
            List<int[]> tours = new ArrayList<>();
            tours(new ArrayList<>(), tours);
            tours.sort((a, b) -> Arrays.compare(a, b));
            return tours.get(0)[i + 1];
        }

        // texts

        int type(int c) {
            if (!in(c, 0, 127)) return refuse(BAD);
            if (text.length() == 120) return refuse(FULL);
            text += (char) c;
            return text.length();
        }

        int clear() {
            int had = text.length();
            text = "";
            return had;
        }

        static boolean canGoOn(String begun) {
            Matcher m = TEXT.matcher(begun);
            return m.matches() || m.hitEnd();
        }

        static int faultOf(String text) {
            for (int i = 0; i < text.length(); i++) {
                if (canGoOn(text.substring(0, i + 1))) continue;
                boolean fourth = Character.isDigit(text.charAt(i)) && i > 0 && Character.isDigit(text.charAt(i - 1));
                if (!fourth) return i;
                return i > 3 && text.charAt(i - 4) == '-' ? i - 4 : i - 3;
            }
            return TEXT.matcher(text).matches() ? -1 : text.length();
        }

        int reads() {
            int fault = faultOf(text);
            if (fault >= 0) return -10 - fault;
            Paper p = plan.copy();
            String[] orders = text.replaceAll(" +$", "").split(";");
            for (int n = 0; n < orders.length; n++) {
                if (!isDone(p, orders[n].strip())) return -1000 - n;
            }
            return settle(p, orders.length);
        }

        static boolean isDone(Paper p, String order) {
            String[] parts = order.substring(1).replace("-", " -").replace(":", " ").replace(",", " ").strip().split(" +");
            int[] v = new int[parts[0].isEmpty() ? 0 : parts.length];
            for (int i = 0; i < v.length; i++) v[i] = Integer.parseInt(parts[i]);
            char c = order.charAt(0);
            if (c == 'e') return doEnters(p, v) >= 0;
            if (c == 'h' || c == 't' || c == 'm') return doSets(p, "htm".indexOf(c), v[0]) >= 0;
            boolean good = c == 'k' || doEmpties(p, v[0]) >= 0;
            if (c == 'k') {
                p.visits.clear();
                for (int k : v) good = good && doVisits(p, k) >= 0;
            } else {
                for (int i = 1; i < v.length; i += 2) good = good && doNote(p, v[0], v[i], v[i + 1]) >= 0;
            }
            return good;
        }

        int back() {
            if (states.isEmpty()) return refuse(NO);
            plan = states.removeLast();
            return states.size();
        }

        int told(int what) {
            if (!in(what, 0, 10)) return refuse(BAD);
            return new int[] {refusals[0], refusals[1], refusals[2], text.length(), plan.entries.size(), plan.values[0],
                plan.values[1], plan.values[2], plan.values[3], plan.visits.size(), states.size()}[what];
        }

        long digest() {
            List<Integer> told = new ArrayList<>();
            for (int what = 0; what <= 10; what++) told.add(told(what));
            for (int l = 0; l < 4; l++) {
                told.add(line(l, 0));
                told.add(line(l, 1));
                for (int i = 0; i < plan.lines.get(l).size(); i++) {
                    for (int what = 0; what <= 3; what++) told.add(noteOf(l, i, what));
                }
            }
            for (int e = 0; e < plan.entries.size(); e++) {
                for (int what = 0; what <= 5; what++) told.add(entry(e, what));
            }
            for (int what = 0; what <= 5; what++) told.add(all(what));
            told.add(path(-1));
            long h = 2267;
            for (int v : told) h = 31 * h + v;
            return h;
        }
    }
}
