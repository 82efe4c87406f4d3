import java.math.BigInteger;
import java.util.ArrayList;
import java.util.Arrays;
import java.util.List;
import java.util.Random;
import java.util.regex.Matcher;
import java.util.regex.Pattern;

/** Long runs of calls by fixed seeds, each answer held against a plain model of the document. */
public final class ModelTest {
    private static final int RUNS = 3000, CALLS = 512;

    public static void main(String[] args) {
        long answers = 0;
        for (int seed = 0; seed < RUNS; seed++) {
            Dice dice = new Dice(seed);
            ShiftCharts charts = new ShiftCharts();
            Model model = new Model();
            List<String> told = new ArrayList<>();
            for (int c = 0; c < CALLS; c++) {
                Call call = dice.call();
                long got = call.on(charts);
                long due = call.on(model);
                told.add(call + " = " + got);
                answers++;
                if (got == due) continue;
                System.out.println("run " + seed + ", call " + c + ": due is " + due);
                told.forEach(System.out::println);
                System.exit(1);
            }
        }
        System.out.println(answers + " answers are as the model's");
    }

    /** A call: which, by its number in the document (promise 2 is 2), and its arguments. */
    private record Call(int which, long[] a) {
        private int i(int k) { return (int) a[k]; }

        long on(ShiftCharts x) {
            switch (which) {
                case 2: return x.value(i(0), i(1));
                case 3: return x.drop(i(0));
                case 4: return x.set(i(0), i(1), i(2));
                case 5: return x.of(i(0), i(1));
                case 6: return x.at(i(0), i(1));
                case 7: return x.off(i(0), i(1));
                case 8: return x.feed(i(0));
                case 9: return x.read();
                case 10: return x.sum(i(0), i(1), i(2));
                case 11: return x.alarms(i(0));
                case 12: return x.alarm(i(0), i(1), i(2));
                case 13: return x.latest(i(0), i(1));
                case 14: return x.joint(i(0));
                case 15: return x.change(i(0));
                case 16: return x.gain(i(0), i(1), i(2));
                case 17: return x.weight(i(0), i(1));
                case 18: return x.weighs(i(0));
                case 19: return x.run(i(0), i(1), i(2));
                case 20: return x.likely(i(0), i(1), i(2), i(3));
                case 21: return x.would(i(0), i(1), i(2));
                case 22: return x.quiet(i(0));
                case 23: return x.see(i(0), i(1));
                case 24: return x.fits(i(0), i(1));
                case 25: return x.odds(i(0), i(1));
                case 26: return x.mean(i(0), i(1));
                case 27: return x.plan(i(0), i(1));
                case 28: return x.ends(i(0));
                case 29: return x.book(i(0), i(1));
                case 30: return x.looked();
                case 31: return x.judge(i(0), i(1), i(2));
                case 32: return x.image();
                case 33: return x.undo();
                case 34: return x.count(i(0));
                case 35: return x.tape(i(0), i(1), i(2));
                case 36: return x.item(i(0), i(1), a[2]);
                case 37: return x.peek(i(0), i(1));
                default: return x.shift(i(0), i(1), i(2), i(3), i(4));
            }
        }

        long on(Model m) {
            switch (which) {
                case 2: return m.value(a[0], a[1]);
                case 3: return m.drop(a[0]);
                case 4: return m.set(a[0], a[1], a[2]);
                case 5: return m.of(a[0], a[1]);
                case 6: return m.at(a[0], a[1]);
                case 7: return m.off(a[0], a[1]);
                case 8: return m.feed(a[0]);
                case 9: return m.read();
                case 10: return m.sum(a[0], a[1], a[2]);
                case 11: return m.alarms(a[0]);
                case 12: return m.alarm(a[0], a[1], a[2]);
                case 13: return m.latest(a[0], a[1]);
                case 14: return m.joint(a[0]);
                case 15: return m.change(a[0]);
                case 16: return m.gain(a[0], a[1], a[2]);
                case 17: return m.weight(a[0], a[1]);
                case 18: return m.weighs(a[0]);
                case 19: return m.run(a[0], a[1], a[2]);
                case 20: return m.likely(a[0], a[1], a[2], a[3]);
                case 21: return m.would(a[0], a[1], a[2]);
                case 22: return m.quiet(a[0]);
                case 23: return m.see(a[0], a[1]);
                case 24: return m.fits(a[0], a[1]);
                case 25: return m.odds(a[0], a[1]);
                case 26: return m.mean(a[0], a[1]);
                case 27: return m.plan(a[0], a[1]);
                case 28: return m.ends(a[0]);
                case 29: return m.book(a[0], a[1]);
                case 30: return m.looked();
                case 31: return m.judge(a[0], a[1], a[2]);
                case 32: return m.image();
                case 33: return m.undo();
                case 34: return m.count(a[0]);
                case 35: return m.tape(a[0], a[1], a[2]);
                case 36: return m.item(a[0], a[1], a[2]);
                case 37: return m.peek(a[0], a[1]);
                default: return m.shift(a[0], a[1], a[2], a[3], a[4]);
            }
        }

        @Override public String toString() { return "promise " + which + " " + Arrays.toString(a); }
    }

    /** Throws calls: mostly such as are answered, some at the edges, a few far out. */
    private static final class Dice {
        private static final int[] FAR = {Integer.MIN_VALUE, Integer.MAX_VALUE, Integer.MIN_VALUE + 1,
            Integer.MAX_VALUE - 1, -100, 100, 1000, -1, 0, -2};
        private final Random random;
        private final int valueBias;
        private final int streamBias;
        private String typed = "";
        private int judgedPlace = 0;

        Dice(long seed) {
            random = new Random(seed);
            valueBias = random.nextInt(4);
            streamBias = random.nextInt(3);
        }

        private int upTo(int low, int high) {
            int kind = random.nextInt(60);
            if (kind == 0) return FAR[random.nextInt(FAR.length)];
            if (kind == 1) return low - 1;
            if (kind == 2) return high + 1;
            if (kind == 3) return low;
            if (kind == 4) return high;
            return low + random.nextInt(high - low + 1);
        }

        private int stream() {
            if (streamBias > 0 && random.nextInt(4) > 0) return 0;
            return upTo(0, 3);
        }

        private int theValue() {
            int reach = new int[] {3, 6, 20, 20}[valueBias];
            return random.nextInt(12) == 0 ? upTo(-20, 20) : random.nextInt(2 * reach + 1) - reach;
        }

        private int setting(int what) {
            switch (what) {
                case 0: return upTo(0, 4);
                case 1: return random.nextBoolean() ? upTo(-3, 3) : upTo(-20, 20);
                case 2: return upTo(0, 5);
                default: return random.nextBoolean() ? upTo(1, 6) : upTo(1, 12);
            }
        }

        private String clause() {
            switch (random.nextInt(7)) {
                case 0: return "k" + random.nextInt(5) + random.nextInt(7);
                case 1: return "s" + random.nextInt(5) + random.nextInt(8);
                case 2: return "d" + random.nextInt(7) + random.nextInt(8);
                case 3: return "l" + random.nextInt(5) + (random.nextInt(17) - 2);
                case 4: return "t" + random.nextInt(5) + (random.nextInt(50) - 25);
                case 5: return "v" + random.nextInt(10) + (random.nextInt(50) - 25);
                default: return "v" + random.nextInt(2) + (random.nextBoolean() ? "-" : "") + "0" + random.nextInt(10);
            }
        }

        private String someText() {
            StringBuilder text = new StringBuilder(clause());
            int more = random.nextInt(14);
            for (int i = 0; i < more; i++) text.append(';').append(clause());
            String signs = "vtksld;-0123456789 x,V";
            int harm = random.nextInt(6);
            int place = random.nextInt(text.length());
            if (harm == 0) text.setLength(place);
            if (harm == 1) text.setCharAt(place, signs.charAt(random.nextInt(signs.length())));
            if (harm == 2) text.insert(place, signs.charAt(random.nextInt(signs.length())));
            if (harm == 3) text.deleteCharAt(place);
            return text.toString();
        }

        Call call() {
            if (!typed.isEmpty() && random.nextInt(40) > 0) {
                int sign = typed.charAt(0);
                typed = typed.substring(1);
                return make(8, sign);
            }
            int which = 2 + random.nextInt(37);
            if (which == 3 && random.nextInt(3) > 0) which = 2;
            if (which == 8 && random.nextInt(8) == 0) typed = random.nextInt(20) == 0 ? "v".repeat(105) : someText();
            return thrown(which);
        }

        private Call thrown(int which) {
            int what = upTo(0, 3);
            switch (which) {
                case 2: return make(2, stream(), theValue());
                case 3: case 11: case 15: case 22: return make(which, stream());
                case 4: return make(4, stream(), what, setting(what));
                case 5: return make(5, stream(), upTo(0, 5));
                case 6: case 7: return make(which, stream(), random.nextBoolean() ? upTo(0, 5) : upTo(0, 39));
                case 8: return typed.isEmpty() && random.nextInt(30) == 0 ? make(8, upTo(0, 127)) : make(9);
                case 10: return make(10, stream(), upTo(0, 1), random.nextBoolean() ? upTo(0, 6) : upTo(0, 39));
                case 12: return make(12, stream(), upTo(0, 4), upTo(0, 2));
                case 13: return make(13, stream(), upTo(0, 39));
                case 14: return make(14, upTo(0, 4));
                case 16: return make(16, stream(), random.nextBoolean() ? upTo(1, 6) : upTo(1, 39), upTo(0, 1));
                case 17: return make(17, upTo(-2, 2), random.nextInt(3) == 0 ? 0 : upTo(0, 5));
                case 18: return make(18, upTo(-2, 2));
                case 19: return make(19, stream(), upTo(0, 5), upTo(0, 1));
                case 20: return make(20, stream(), upTo(0, 5), upTo(0, 8), upTo(0, 1));
                case 21: return make(21, stream(), random.nextInt(10) == 0 ? what : 2 + random.nextInt(2), upTo(0, 12));
                case 23: return make(23, random.nextInt(6) == 0 ? -1 : stream(), random.nextInt(3) > 0 ? upTo(0, 6) : upTo(0, 39));
                case 24: case 25: case 26: return make(which, stream(), upTo(0, 1));
                case 27: return plan(random.nextInt(7) == 0 ? -1 : what);
                case 28: return make(28, upTo(0, 2));
                case 29: return make(29, random.nextInt(8) == 0 ? -1 : stream(), random.nextBoolean() ? upTo(0, 2) : upTo(0, 40));
                case 31: return make(31, stream(), upTo(0, 5), random.nextBoolean() ? judgedPlace : upTo(0, 59));
                case 34: return make(34, upTo(0, 4));
                case 35: return make(35, upTo(0, 5), random.nextBoolean() ? 3 : upTo(-1, 4), upTo(0, 60));
                case 36: return make(36, upTo(0, 5), judgedPlace = upTo(0, 20), item());
                case 37: return make(37, upTo(0, 5), upTo(0, 20));
                case 38: return make(38, upTo(0, 5), upTo(0, 20), upTo(0, 5), upTo(0, 20), upTo(0, 20));
                default: return make(which);
            }
        }

        private Call plan(int what) {
            switch (what) {
                case 0: return make(27, 0, theValue());
                case 1: return make(27, 1, setting(1));
                case 2: return make(27, 2, upTo(0, 5));
                case 3: return make(27, 3, random.nextInt(3) == 0 ? upTo(0, 40) : upTo(0, 4));
                default: return make(27, what, upTo(-50, 50));
            }
        }

        private long item() {
            return random.nextInt(3) == 0 ? random.nextLong() : random.nextInt(4);
        }

        private static Call make(int which, long... a) { return new Call(which, a); }
    }

    private record Alarm(int place, int side, int size) { }

    private record Fraction(BigInteger above, BigInteger below) {
        static Fraction of(long above, long below) {
            return of(BigInteger.valueOf(above), BigInteger.valueOf(below));
        }

        static Fraction of(BigInteger above, BigInteger below) {
            BigInteger g = above.gcd(below);
            if (below.signum() < 0) g = g.negate();
            return new Fraction(above.divide(g), below.divide(g));
        }

        Fraction plus(Fraction o) {
            return of(above.multiply(o.below).add(o.above.multiply(below)), below.multiply(o.below));
        }

        Fraction times(Fraction o) { return of(above.multiply(o.above), below.multiply(o.below)); }

        Fraction by(Fraction o) { return of(above.multiply(o.below), below.multiply(o.above)); }

        Fraction minus(Fraction o) { return plus(of(o.above.negate(), o.below)); }

        boolean isZero() { return above.signum() == 0; }

        boolean isGreater(Fraction o) { return minus(o).above.signum() > 0; }

        long part(long part) { return (part == 0 ? above : below).longValueExact(); }
    }

    private static final class Line {
        long kind = 0, target = 0, slack = 1, limit = 4;
        List<Long> values = new ArrayList<>();

        Line copy() {
            Line line = new Line();
            line.kind = kind;
            line.target = target;
            line.slack = slack;
            line.limit = limit;
            line.values = new ArrayList<>(values);
            return line;
        }

        long start() { return kind == 1 || kind == 3 ? limit / 2 : 0; }

        long off(int place) {
            long off = values.get(place) - target;
            if (kind == 2 || kind == 3) off = off < -5 ? -5 : off > 5 ? 5 : off;
            return off;
        }

        List<Long> offs() {
            List<Long> offs = new ArrayList<>();
            for (int i = 0; i < values.size(); i++) offs.add(off(i));
            return offs;
        }

        Drawn drawn() { return new Drawn(offs(), slack, limit, start(), kind == 4); }

        Fraction gain(long t) {
            long n = values.size();
            long apart = n * total((int) t) - t * total((int) n);
            return Fraction.of(apart * apart, t * (n - t));
        }

        long total(int first) {
            return values.subList(0, first).stream().mapToLong(Long::longValue).sum();
        }

        long change() {
            if (values.size() < 2) return -5;
            int best = 1;
            for (int t = 1; t < values.size(); t++) if (gain(t).isGreater(gain(best))) best = t;
            return best;
        }
    }

    private static final class Drawn {
        final List<long[]> sums = new ArrayList<>();
        final List<Alarm> alarms = new ArrayList<>();

        Drawn(List<Long> offs, long slack, long limit, long start, boolean once) {
            long up = start, down = start;
            boolean dead = false;
            for (int i = 0; i < offs.size(); i++) {
                if (!dead) {
                    up = up + offs.get(i) - slack;
                    if (up < 0) up = 0;
                    down = down - offs.get(i) - slack;
                    if (down < 0) down = 0;
                    boolean alarm = true;
                    if (up >= limit) alarms.add(new Alarm(i, 0, (int) up));
                    else if (down >= limit) alarms.add(new Alarm(i, 1, (int) down));
                    else alarm = false;
                    if (alarm) { up = start; down = start; dead = once; }
                }
                sums.add(new long[] {dead ? 0 : up, dead ? 0 : down});
            }
        }

        long first() { return alarms.isEmpty() ? -5 : alarms.get(0).place(); }
    }

    private static final class Model {
        private static final long NO = Long.MIN_VALUE;
        private static final String CLAUSE = "(?:[vtl][0-9]-?[0-9]{1,2}|[ksd][0-9][0-9])";
        private static final Pattern SET_UP = Pattern.compile(CLAUSE + "(?:;" + CLAUSE + "){0,11}");

        Line[] lines = {new Line(), new Line(), new Line(), new Line()};
        long[] weights = {1, 1, 1, 1, 1};
        List<long[]> seen = new ArrayList<>(), plan = new ArrayList<>(), book = new ArrayList<>();
        String text = "";
        Model image;
        long[][] tapes = new long[6][];
        long[] sorts = {-1, -1, -1, -1, -1, -1};

        static boolean in(long v, long low, long high) { return v >= low && v <= high; }

        Line line(long stream) { return in(stream, 0, 3) ? lines[(int) stream] : null; }

        static boolean allowed(long what, long v) {
            return what == 0 && in(v, 0, 4) || what == 1 && in(v, -20, 20)
                || what == 2 && in(v, 0, 5) || what == 3 && in(v, 1, 12);
        }

        long value(long stream, long v) {
            if (line(stream) == null) return -1;
            if (!in(v, -20, 20)) return -2;
            if (line(stream).values.size() == 40) return -4;
            line(stream).values.add(v);
            return line(stream).values.size();
        }

        long drop(long stream) {
            if (line(stream) == null) return -1;
            List<Long> values = line(stream).values;
            if (values.isEmpty()) return -3;
            values.remove(values.size() - 1);
            return values.size();
        }

        static void put(Line line, long what, long v) {
            if (what == 0) line.kind = v;
            if (what == 1) line.target = v;
            if (what == 2) line.slack = v;
            if (what == 3) line.limit = v;
        }

        long set(long stream, long what, long v) {
            if (line(stream) == null || !allowed(what, v)) return NO;
            long was = of(stream, what);
            put(line(stream), what, v);
            return was;
        }

        long of(long stream, long what) {
            Line l = line(stream);
            if (l == null || !in(what, 0, 5)) return NO;
            return new long[] {l.kind, l.target, l.slack, l.limit, l.values.size(), l.start()}[(int) what];
        }

        boolean has(long stream, long place) {
            return line(stream) != null && in(place, 0, line(stream).values.size() - 1);
        }

        long at(long stream, long place) { return has(stream, place) ? line(stream).values.get((int) place) : NO; }

        long off(long stream, long place) { return has(stream, place) ? line(stream).off((int) place) : NO; }

        long feed(long sign) {
            if (!in(sign, 0, 127)) return -2;
            if (text.length() == 100) return -4;
            text += (char) sign;
            return text.length();
        }

        long read() {
            String t = text;
            text = "";
            if (!SET_UP.matcher(t).matches()) return -10 - fault(t);
            long done = 0;
            for (String clause : t.split(";")) {
                long i = clause.charAt(1) - '0';
                long n = Long.parseLong(clause.substring(2));
                char c = clause.charAt(0);
                boolean ok = c == 'v' ? value(i, n) >= 0 : c == 'd' ? weight(i - 2, n) >= 0
                    : set(i, c == 'k' ? 0 : c == 't' ? 1 : c == 's' ? 2 : 3, n) != NO;
                if (ok) done++;
            }
            return done;
        }

        static int fault(String t) {
            for (int p = 0; p < t.length(); p++) {
                Matcher m = SET_UP.matcher(t.substring(0, p + 1));
                if (!m.matches() && !m.hitEnd()) return p;
            }
            return t.length();
        }

        long sum(long stream, long side, long place) {
            if (!has(stream, place) || !in(side, 0, 1)) return -1;
            return line(stream).drawn().sums.get((int) place)[(int) side];
        }

        long alarms(long stream) { return line(stream) == null ? -1 : line(stream).drawn().alarms.size(); }

        long alarm(long stream, long k, long what) {
            if (!in(k, 0, alarms(stream) - 1) || !in(what, 0, 2)) return -1;
            Alarm a = line(stream).drawn().alarms.get((int) k);
            return what == 0 ? a.place() : what == 1 ? a.side() : a.size();
        }

        long latest(long stream, long place) {
            if (line(stream) == null || place < 0) return -1;
            List<Alarm> alarms = line(stream).drawn().alarms;
            for (int k = alarms.size() - 1; k >= 0; k--) if (alarms.get(k).place() <= place) return alarms.get(k).place();
            return -5;
        }

        long joint(long what) {
            List<Line> used = new ArrayList<>(List.of(lines));
            used.removeIf(l -> l.values.isEmpty());
            int places = used.stream().mapToInt(l -> l.values.size()).min().orElse(0);
            List<Long> offs = new ArrayList<>();
            for (int i = 0; i < places; i++) {
                int place = i;
                offs.add(used.stream().mapToLong(l -> l.off(place)).sum());
            }
            long slack = used.stream().mapToLong(l -> l.slack).sum();
            long limit = used.stream().mapToLong(l -> l.limit).sum();
            List<Alarm> found = new Drawn(offs, slack, limit, 0, false).alarms;
            if (!in(what, 0, 4)) return -1;
            if (what < 2) return what == 0 ? places : found.size();
            if (found.isEmpty()) return -5;
            Alarm a = found.get(0);
            return what == 2 ? a.place() : what == 3 ? a.side() : a.size();
        }

        long change(long stream) { return line(stream) == null ? -1 : line(stream).change(); }

        long gain(long stream, long t, long part) {
            if (line(stream) == null || !in(t, 1, line(stream).values.size() - 1) || !in(part, 0, 1)) return NO;
            return line(stream).gain(t).part(part);
        }

        long weight(long step, long w) {
            if (!in(step, -2, 2)) return -1;
            if (!in(w, 0, 5)) return -2;
            long was = weights[(int) step + 2];
            weights[(int) step + 2] = w;
            return was;
        }

        long weighs(long step) { return in(step, -2, 2) ? weights[(int) step + 2] : -1; }

        boolean chained(long stream, long level, long part) {
            return line(stream) != null && in(level, 0, line(stream).limit - 1) && in(part, 0, 1)
                && line(stream).limit <= 6 && Arrays.stream(weights).sum() > 0;
        }

        /** Chances from LEVEL to LEVEL; the column LIMIT is the ALARM. */
        Fraction[][] chances(Line l) {
            int n = (int) l.limit;
            Fraction[][] p = new Fraction[n][n + 1];
            for (Fraction[] row : p) Arrays.fill(row, Fraction.of(0, 1));
            for (int from = 0; from < n; from++) {
                for (int s = -2; s <= 2; s++) {
                    int to = (int) Math.min(n, Math.max(0, from + s - l.slack));
                    p[from][to] = p[from][to].plus(Fraction.of(weights[s + 2], Arrays.stream(weights).sum()));
                }
            }
            return p;
        }

        static boolean[] reach(Fraction[][] p, int from) {
            boolean[] reached = new boolean[p.length + 1];
            List<Integer> open = new ArrayList<>(List.of(from));
            reached[from] = true;
            while (!open.isEmpty()) {
                int l = open.remove(0);
                for (int to = 0; l < p.length && to <= p.length; to++) {
                    if (!p[l][to].isZero() && !reached[to]) { reached[to] = true; open.add(to); }
                }
            }
            return reached;
        }

        long run(long stream, long level, long part) {
            if (!chained(stream, level, part)) return NO;
            Fraction[][] p = chances(line(stream));
            boolean[] reached = reach(p, (int) level);
            for (int l = 0; l < p.length; l++) if (reached[l] && !reach(p, l)[p.length]) return NO;
            return gauss(p, reached)[(int) level].part(part);
        }

        /** x = 1 + P x over the reached LEVELS, x = 0 over the others. */
        static Fraction[] gauss(Fraction[][] p, boolean[] reached) {
            int n = p.length;
            Fraction one = Fraction.of(1, 1), zero = Fraction.of(0, 1);
            Fraction[][] a = new Fraction[n][n + 1];
            for (int r = 0; r < n; r++) {
                for (int c = 0; c < n; c++) {
                    a[r][c] = (r == c ? one : zero).minus(reached[r] ? p[r][c] : zero);
                }
                a[r][n] = reached[r] ? one : zero;
            }
            for (int k = 0; k < n; k++) {
                int pivot = k;
                while (a[pivot][k].isZero()) pivot++;
                Fraction[] row = a[pivot];
                a[pivot] = a[k];
                a[k] = row;
                for (int r = 0; r < n; r++) {
                    if (r == k || a[r][k].isZero()) continue;
                    Fraction f = a[r][k].by(a[k][k]);
                    for (int c = 0; c <= n; c++) a[r][c] = a[r][c].minus(f.times(a[k][c]));
                }
            }
            Fraction[] x = new Fraction[n];
            for (int k = 0; k < n; k++) x[k] = a[k][n].by(a[k][k]);
            return x;
        }

        long likely(long stream, long level, long n, long part) {
            if (!chained(stream, level, part) || !in(n, 0, 8)) return NO;
            Fraction[][] p = chances(line(stream));
            Fraction[] alarmed = new Fraction[p.length];
            Arrays.fill(alarmed, Fraction.of(0, 1));
            for (int k = 0; k < n; k++) {
                Fraction[] next = new Fraction[p.length];
                for (int l = 0; l < p.length; l++) {
                    next[l] = p[l][p.length];
                    for (int to = 0; to < p.length; to++) next[l] = next[l].plus(p[l][to].times(alarmed[to]));
                }
                alarmed = next;
            }
            return alarmed[(int) level].part(part);
        }

        long would(long stream, long what, long v) {
            if (line(stream) == null || what != 2 && what != 3) return -1;
            if (!allowed(what, v)) return -2;
            return were(line(stream), what, v).drawn().first();
        }

        static Line were(Line l, long what, long v) {
            Line other = l.copy();
            put(other, what, v);
            return other;
        }

        long quiet(long stream) {
            if (line(stream) == null) return -1;
            for (int s = 0; s <= 5; s++) if (were(line(stream), 2, s).drawn().alarms.isEmpty()) return s;
            return -5;
        }

        static long row(List<long[]> rows, int most, long a, long b) {
            if (rows.size() == most) return -4;
            rows.add(new long[] {a, b});
            return rows.size();
        }

        static long clear(List<long[]> rows) {
            rows.clear();
            return 0;
        }

        long see(long stream, long place) {
            if (stream == -1) return clear(seen);
            if (line(stream) == null) return -1;
            return in(place, 0, 39) ? row(seen, 6, stream, place) : -2;
        }

        long fits(long stream, long what) {
            if (line(stream) == null || !in(what, 0, 1)) return -1;
            List<Integer> fit = new ArrayList<>();
            for (int limit = 1; limit <= 12; limit++) {
                List<Long> places = new ArrayList<>();
                for (Alarm a : were(line(stream), 3, limit).drawn().alarms) places.add((long) a.place());
                if (seen.stream().allMatch(s -> s[0] != stream || places.contains(s[1]))) fit.add(limit);
            }
            return what == 0 ? fit.size() : fit.isEmpty() ? -5 : fit.get(0);
        }

        long odds(long stream, long part) {
            if (line(stream) == null || !in(part, 0, 1)) return NO;
            int n = 0;
            for (int limit = 1; limit <= 10; limit++) if (would(stream, 3, limit) >= 0) n++;
            return Fraction.of(n, 10).part(part);
        }

        long mean(long stream, long part) {
            if (line(stream) == null || !in(part, 0, 1) || line(stream).values.isEmpty()) return NO;
            int n = line(stream).values.size();
            return Fraction.of(line(stream).total(n), n).part(part);
        }

        long plan(long what, long n) {
            if (what == -1) return clear(plan);
            if (!in(what, 0, 3)) return -1;
            boolean good = what < 2 ? in(n, -20, 20) : what == 2 ? in(n, 0, 5) : in(n, 0, 40);
            return good ? row(plan, 8, what, n) : -2;
        }

        long ends(long what) {
            if (!in(what, 0, 2)) return -1;
            Line l = lines[0].copy();
            for (long[] row : plan) {
                if (row[0] == 0 && l.values.size() < 40) l.values.add(row[1]);
                if (row[0] == 1) l.target = row[1];
                if (row[0] == 2) l.slack = row[1];
                for (int i = 0; row[0] == 3 && i < row[1] && !l.values.isEmpty(); i++) l.values.remove(0);
            }
            return what == 0 ? l.drawn().alarms.size() : what == 1 ? l.drawn().first() : l.change();
        }

        long book(long stream, long n) {
            if (stream == -1) return clear(book);
            if (line(stream) == null) return -1;
            return in(n, 0, 40) ? row(book, 8, stream, n) : -2;
        }

        long looked() {
            for (int r = 0; r < book.size(); r++) if (alarms(book.get(r)[0]) != book.get(r)[1]) return r;
            return -5;
        }

        long judge(long stream, long tape, long i) {
            if (line(stream) == null || !in(tape, 0, 5)) return -1;
            long[] row = tapes[(int) tape];
            if (row != null && sorts[(int) tape] != 3) return -12;
            List<long[]> sums = line(stream).drawn().sums;
            if (sums.isEmpty()) return -5;
            if (row == null || i < 0) return 100;
            for (int k = 0; k < sums.size(); k++) {
                if (i + k >= row.length) return 100 + k;
                if (row[(int) i + k] != sums.get(k)[0]) return k;
            }
            return -5;
        }

        void take(Model o) {
            for (int i = 0; i < 4; i++) lines[i] = o.lines[i].copy();
            weights = o.weights.clone();
            seen = new ArrayList<>(o.seen);
            plan = new ArrayList<>(o.plan);
            book = new ArrayList<>(o.book);
        }

        long image() {
            image = new Model();
            image.take(this);
            return count(0);
        }

        long undo() {
            if (image == null) return -3;
            take(image);
            return count(0);
        }

        long count(long what) {
            if (!in(what, 0, 4)) return -2;
            int all = 0;
            for (Line l : lines) all += l.values.size();
            return new long[] {all, seen.size(), plan.size(), book.size(), text.length()}[(int) what];
        }

        long tape(long tape, long sort, long n) {
            if (!in(tape, 0, 5)) return -1;
            if (!in(sort, -1, 4) || sort >= 0 && n > 60) return -2;
            if (sort >= 0 && n < 0) return -14;
            sorts[(int) tape] = sort;
            tapes[(int) tape] = sort < 0 ? null : new long[(int) n];
            return 1;
        }

        long item(long tape, long i, long v) {
            if (!in(tape, 0, 5)) return -1;
            long[] row = tapes[(int) tape];
            if (row == null) return -11;
            if (!in(i, 0, row.length - 1)) return -13;
            int bits = new int[] {8, 16, 32, 64, 0}[(int) sorts[(int) tape]];
            row[(int) i] = bits == 0 ? (v == 0 ? 0 : 1) : v << (64 - bits) >> (64 - bits);
            return 1;
        }

        long peek(long tape, long i) {
            if (!in(tape, 0, 5) || tapes[(int) tape] == null) return NO;
            long[] row = tapes[(int) tape];
            return in(i, 0, row.length - 1) ? row[(int) i] : NO;
        }

        long shift(long tape, long i, long other, long j, long n) {
            if (!in(tape, 0, 5) || !in(other, 0, 5)) return -1;
            long[] from = tapes[(int) tape], to = tapes[(int) other];
            if (from == null || to == null) return -11;
            if (sorts[(int) tape] != sorts[(int) other]) return -12;
            if (n < 0 || i < 0 || j < 0 || i + n > from.length || j + n > to.length) return -13;
            long[] were = from.clone();
            for (int k = 0; k < n; k++) to[(int) j + k] = were[(int) i + k];
            return n;
        }
    }
}
