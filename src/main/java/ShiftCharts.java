/**
 * Charts that catch shifts. The numbered promises of the document say what each call answers;
 * the words in capitals below are the document's.
 */
public final class ShiftCharts {
    public static final int NONE = -1, BAD = -2, STATE = -3, FULL = -4;
    public static final long NO = Long.MIN_VALUE;

    private static final int NOWHERE = -5;
    private static final int NOTHING = -11, CAST = -12, PLACE = -13, SIZE = -14;

    private static final int STREAMS = 4, MOST_VALUES = 40, GREATEST_VALUE = 20;
    private static final int KIND = 0, TARGET = 1, SLACK = 2, LIMIT = 3, LENGTH = 4, START = 5;
    private static final int HEAD = 1, CAPPED = 2, BOTH = 3, ONCE = 4;
    private static final int GREATEST_KIND = 4, GREATEST_SLACK = 5, GREATEST_LIMIT = 12, CAP = 5;
    private static final int UP = 0, DOWN = 1;

    private static final int STEPS = 5, MIDDLE_STEP = 2, GREATEST_WEIGHT = 5;
    private static final int MOST_LEVELS = 6, MOST_STEPS_ASKED = 8;
    private static final int LIMITS_OF_ODDS = 10;

    private static final int MOST_SEEN = 6, MOST_PLANNED = 8, MOST_BOOKED = 8;
    private static final int COMES = 0, GO = 3;

    private static final int MOST_SIGNS = 100, MOST_CLAUSES = 12, GREATEST_SIGN = 127;
    private static final int NO_FAULT = -1, FAULT_BASE = -10;

    private static final int TAPES = 6, MOST_ITEMS = 60, ROW_ENDED = 100;
    private static final int EMPTY = -1, BYTES = 0, SHORTS = 1, INTS = 2, LONGS = 3, BOOLEANS = 4;

    // More than Euclid's steps can be for any two longs.
    private static final int MOST_DIVISIONS = 100;

    private final Setup now = new Setup();
    private final Setup kept = new Setup();
    private boolean imageTaken;
    private final Text text = new Text();
    private final Tape[] tapes = new Tape[TAPES];
    // The rooms below are filled anew by each call that uses them, so that no call makes objects.
    private final Chart chart = new Chart();
    private final Chain chain = new Chain();
    private final Stream trial = new Stream();
    private final int[] offsets = new int[MOST_VALUES];

    public ShiftCharts() {
        for (int i = 0; i < TAPES; i++) tapes[i] = new Tape();
    }

    // ---- streams

    public int value(int stream, int v) {
        if (!isStream(stream)) return NONE;
        if (!isValue(v)) return BAD;
        Stream s = now.streams[stream];
        if (s.isFull()) return FULL;
        s.add(v);
        return s.length;
    }

    public int drop(int stream) {
        if (!isStream(stream)) return NONE;
        Stream s = now.streams[stream];
        if (s.length == 0) return STATE;
        s.length--;
        return s.length;
    }

    public long set(int stream, int what, int v) {
        if (!isStream(stream) || !isSetting(what, v)) return NO;
        Stream s = now.streams[stream];
        long was = s.setting(what);
        s.settle(what, v);
        return was;
    }

    public long of(int stream, int what) {
        if (!isStream(stream) || what < KIND || what > START) return NO;
        return now.streams[stream].setting(what);
    }

    public long at(int stream, int place) {
        if (!isStream(stream) || !now.streams[stream].has(place)) return NO;
        return now.streams[stream].values[place];
    }

    public long off(int stream, int place) {
        if (!isStream(stream) || !now.streams[stream].has(place)) return NO;
        return now.streams[stream].offset(place);
    }

    public int feed(int sign) {
        if (sign < 0 || sign > GREATEST_SIGN) return BAD;
        if (text.length >= MOST_SIGNS) return FULL;
        text.add(sign);
        return text.length;
    }

    public int read() {
        int fault = text.fault();
        text.length = 0;
        if (fault != NO_FAULT) return FAULT_BASE - fault;
        int done = 0;
        for (int c = 0; c < text.clauses; c++) {
            if (obey(text.letters[c], text.digits[c], text.numbers[c])) done++;
        }
        return done;
    }

    // ---- sums, alarms

    public int sum(int stream, int side, int place) {
        if (!isStream(stream) || side < UP || side > DOWN) return NONE;
        if (!now.streams[stream].has(place)) return NONE;
        drawNow(stream);
        return side == UP ? chart.ups[place] : chart.downs[place];
    }

    public int alarms(int stream) {
        if (!isStream(stream)) return NONE;
        drawNow(stream);
        return chart.found;
    }

    public int alarm(int stream, int k, int what) {
        if (!isStream(stream)) return NONE;
        drawNow(stream);
        if (k < 0 || k >= chart.found) return NONE;
        switch (what) {
            case 0: return chart.places[k];
            case 1: return chart.sides[k];
            case 2: return chart.sizes[k];
            default: return NONE;
        }
    }

    public int latest(int stream, int place) {
        if (!isStream(stream) || place < 0) return NONE;
        drawNow(stream);
        int last = NOWHERE;
        for (int k = 0; k < chart.found; k++) {
            if (chart.places[k] <= place) last = chart.places[k];
        }
        return last;
    }

    public int joint(int what) {
        int places = now.jointPlaces();
        drawJoint(places);
        switch (what) {
            case 0: return places;
            case 1: return chart.found;
            case 2: return chart.firstPlace();
            case 3: return chart.found == 0 ? NOWHERE : chart.sides[0];
            case 4: return chart.found == 0 ? NOWHERE : chart.sizes[0];
            default: return NONE;
        }
    }

    public int change(int stream) {
        if (!isStream(stream)) return NONE;
        return now.streams[stream].changePlace();
    }

    public long gain(int stream, int t, int part) {
        if (!isStream(stream) || !isPart(part)) return NO;
        Stream s = now.streams[stream];
        if (t < 1 || t >= s.length) return NO;
        return lowest(s.gainAbove(t), s.gainBelow(t), part);
    }

    // ---- dice, chains

    public int weight(int step, int w) {
        if (!isStep(step)) return NONE;
        if (w < 0 || w > GREATEST_WEIGHT) return BAD;
        int was = now.weights[step + MIDDLE_STEP];
        now.weights[step + MIDDLE_STEP] = w;
        return was;
    }

    public int weighs(int step) {
        return isStep(step) ? now.weights[step + MIDDLE_STEP] : NONE;
    }

    public long run(int stream, int level, int part) {
        if (!isStream(stream) || !isPart(part)) return NO;
        if (!layChain(stream, level) || !chain.surelyEnds(level)) return NO;
        chain.solve(level);
        return lowest(chain.above, chain.below, part);
    }

    public long likely(int stream, int level, int n, int part) {
        if (!isStream(stream) || !isPart(part)) return NO;
        if (n < 0 || n > MOST_STEPS_ASKED || !layChain(stream, level)) return NO;
        chain.walk(level, n);
        return lowest(chain.above, chain.below, part);
    }

    // ---- what would be

    public int would(int stream, int what, int v) {
        if (!isStream(stream) || (what != SLACK && what != LIMIT)) return NONE;
        if (!isSetting(what, v)) return BAD;
        Stream s = now.streams[stream];
        if (what == SLACK) draw(s, v, s.limit);
        else draw(s, s.slack, v);
        return chart.firstPlace();
    }

    public int quiet(int stream) {
        if (!isStream(stream)) return NONE;
        Stream s = now.streams[stream];
        for (int slack = 0; slack <= GREATEST_SLACK; slack++) {
            draw(s, slack, s.limit);
            if (chart.found == 0) return slack;
        }
        return NOWHERE;
    }

    public int see(int stream, int place) {
        if (stream == EMPTY) return now.seen.clear();
        if (!isStream(stream)) return NONE;
        if (place < 0 || place >= MOST_VALUES) return BAD;
        return now.seen.add(stream, place);
    }

    public int fits(int stream, int what) {
        if (!isStream(stream) || what < 0 || what > 1) return NONE;
        Stream s = now.streams[stream];
        int many = 0;
        int least = NOWHERE;
        for (int limit = GREATEST_LIMIT; limit >= 1; limit--) {
            draw(s, s.slack, limit);
            if (!showsSeen(stream)) continue;
            many++;
            least = limit;
        }
        return what == 0 ? many : least;
    }

    public long odds(int stream, int part) {
        if (!isStream(stream) || !isPart(part)) return NO;
        Stream s = now.streams[stream];
        int alarming = 0;
        for (int limit = 1; limit <= LIMITS_OF_ODDS; limit++) {
            draw(s, s.slack, limit);
            if (chart.found > 0) alarming++;
        }
        return lowest(alarming, LIMITS_OF_ODDS, part);
    }

    public long mean(int stream, int part) {
        if (!isStream(stream) || !isPart(part)) return NO;
        Stream s = now.streams[stream];
        if (s.length == 0) return NO;
        return lowest(s.total(s.length), s.length, part);
    }

    // ---- plans, books

    public int plan(int what, int n) {
        if (what == EMPTY) return now.planned.clear();
        if (what < COMES || what > GO) return NONE;
        if (!isPlannable(what, n)) return BAD;
        return now.planned.add(what, n);
    }

    public int ends(int what) {
        if (what < 0 || what > 2) return NONE;
        followPlan();
        if (what == 2) return trial.changePlace();
        draw(trial, trial.slack, trial.limit);
        return what == 0 ? chart.found : chart.firstPlace();
    }

    public int book(int stream, int n) {
        if (stream == EMPTY) return now.booked.clear();
        if (!isStream(stream)) return NONE;
        if (n < 0 || n > MOST_VALUES) return BAD;
        return now.booked.add(stream, n);
    }

    public int looked() {
        Rows rows = now.booked;
        for (int r = 0; r < rows.length; r++) {
            drawNow(rows.whats[r]);
            if (chart.found != rows.numbers[r]) return r;
        }
        return NOWHERE;
    }

    // ---- judging, the image, tapes

    public int judge(int stream, int tape, int i) {
        if (!isStream(stream) || !isTape(tape)) return NONE;
        Tape row = tapes[tape];
        if (row.sort != EMPTY && row.sort != LONGS) return CAST;
        drawNow(stream);
        int many = now.streams[stream].length;
        for (int k = 0; k < many; k++) {
            // Compared so, no i is so great that i + k wraps around.
            if (i < 0 || i >= row.length - k) return ROW_ENDED + k;
            if (row.items[i + k] != chart.ups[k]) return k;
        }
        return NOWHERE;
    }

    public int image() {
        kept.become(now);
        imageTaken = true;
        return now.allValues();
    }

    public int undo() {
        if (!imageTaken) return STATE;
        now.become(kept);
        return now.allValues();
    }

    public int count(int what) {
        switch (what) {
            case 0: return now.allValues();
            case 1: return now.seen.length;
            case 2: return now.planned.length;
            case 3: return now.booked.length;
            case 4: return text.length;
            default: return BAD;
        }
    }

    public int tape(int tape, int sort, int n) {
        if (!isTape(tape)) return NONE;
        if (sort == EMPTY) {
            tapes[tape].lay(EMPTY, 0);
            return 1;
        }
        if (sort < BYTES || sort > BOOLEANS || n > MOST_ITEMS) return BAD;
        if (n < 0) return SIZE;
        tapes[tape].lay(sort, n);
        return 1;
    }

    public int item(int tape, int i, long v) {
        if (!isTape(tape)) return NONE;
        Tape row = tapes[tape];
        if (row.sort == EMPTY) return NOTHING;
        if (!row.has(i)) return PLACE;
        row.items[i] = row.narrowed(v);
        return 1;
    }

    public long peek(int tape, int i) {
        if (!isTape(tape) || !tapes[tape].has(i)) return NO;
        return tapes[tape].items[i];
    }

    public int shift(int tape, int i, int other, int j, int n) {
        if (!isTape(tape) || !isTape(other)) return NONE;
        Tape from = tapes[tape];
        Tape to = tapes[other];
        if (from.sort == EMPTY || to.sort == EMPTY) return NOTHING;
        if (from.sort != to.sort) return CAST;
        if (!from.holds(i, n) || !to.holds(j, n)) return PLACE;
        System.arraycopy(from.items, i, to.items, j, n);
        return n;
    }

    // ---- what the calls share

    private static boolean isStream(int stream) {
        return stream >= 0 && stream < STREAMS;
    }

    private static boolean isTape(int tape) {
        return tape >= 0 && tape < TAPES;
    }

    private static boolean isStep(int step) {
        return step >= -MIDDLE_STEP && step <= MIDDLE_STEP;
    }

    private static boolean isPart(int part) {
        return part == 0 || part == 1;
    }

    private static boolean isValue(int v) {
        return v >= -GREATEST_VALUE && v <= GREATEST_VALUE;
    }

    private static boolean isSetting(int what, int v) {
        switch (what) {
            case KIND: return v >= 0 && v <= GREATEST_KIND;
            case TARGET: return isValue(v);
            case SLACK: return v >= 0 && v <= GREATEST_SLACK;
            case LIMIT: return v >= 1 && v <= GREATEST_LIMIT;
            default: return false;
        }
    }

    private static boolean isPlannable(int what, int n) {
        if (what == COMES) return isValue(n);
        if (what == GO) return n >= 0 && n <= MOST_VALUES;
        return isSetting(what, n);
    }

    /** One part of a fraction in lowest terms; what is below the line must be above 0. */
    private static long lowest(long above, long below, int part) {
        long a = Math.abs(above);
        long b = below;
        for (int i = 0; i < MOST_DIVISIONS && b != 0; i++) {
            long rest = a % b;
            a = b;
            b = rest;
        }
        if (a == 0) return NO;
        return part == 0 ? above / a : below / a;
    }

    /** Does one CLAUSE of a set-up: whether it was not refused. */
    private boolean obey(int letter, int digit, int number) {
        switch (letter) {
            case 'v': return value(digit, number) > 0;
            case 't': return set(digit, TARGET, number) != NO;
            case 'k': return set(digit, KIND, number) != NO;
            case 's': return set(digit, SLACK, number) != NO;
            case 'l': return set(digit, LIMIT, number) != NO;
            case 'd': return weight(digit - MIDDLE_STEP, number) >= 0;
            default: return false;
        }
    }

    private void drawNow(int stream) {
        Stream s = now.streams[stream];
        draw(s, s.slack, s.limit);
    }

    private void draw(Stream s, int slack, int limit) {
        for (int i = 0; i < s.length; i++) offsets[i] = s.offset(i);
        chart.begin(slack, limit, s.startBy(limit), s.kind == ONCE);
        chart.follow(offsets, s.length);
    }

    private void drawJoint(int places) {
        for (int i = 0; i < places; i++) offsets[i] = now.jointOffset(i);
        chart.begin(now.jointSetting(SLACK), now.jointSetting(LIMIT), 0, false);
        chart.follow(offsets, places);
    }

    /** Whether the chart has ALARMS at all places SEEN of a STREAM. */
    private boolean showsSeen(int stream) {
        Rows rows = now.seen;
        for (int r = 0; r < rows.length; r++) {
            if (rows.whats[r] == stream && !chart.alarmsAt(rows.numbers[r])) return false;
        }
        return true;
    }

    /** Makes the trial STREAM what STREAM 0 is behind the PLAN. */
    private void followPlan() {
        trial.become(now.streams[0]);
        Rows rows = now.planned;
        for (int r = 0; r < rows.length; r++) {
            int n = rows.numbers[r];
            if (rows.whats[r] == COMES) trial.add(n);
            else if (rows.whats[r] == GO) trial.loseFirst(n);
            else trial.settle(rows.whats[r], n);
        }
    }

    /** Readies THE CHAIN of a STREAM: whether it has one with such a LEVEL. */
    private boolean layChain(int stream, int level) {
        Stream s = now.streams[stream];
        if (level < 0 || level >= s.limit || s.limit > MOST_LEVELS) return false;
        chain.lay(s.slack, s.limit, now.weights);
        return chain.allWeights > 0;
    }

    private static final class Stream {
        private int kind;
        private int target;
        private int slack = 1;
        private int limit = 4;
        private int length;
        private final int[] values = new int[MOST_VALUES];

        boolean isFull() {
            return length >= MOST_VALUES;
        }

        boolean has(int place) {
            return place >= 0 && place < length;
        }

        void add(int v) {
            if (isFull()) return;
            values[length] = v;
            length++;
        }

        void loseFirst(int n) {
            int gone = Math.min(n, length);
            for (int i = gone; i < length; i++) values[i - gone] = values[i];
            length -= gone;
        }

        void become(Stream other) {
            kind = other.kind;
            target = other.target;
            slack = other.slack;
            limit = other.limit;
            length = other.length;
            System.arraycopy(other.values, 0, values, 0, MOST_VALUES);
        }

        int setting(int what) {
            switch (what) {
                case KIND: return kind;
                case TARGET: return target;
                case SLACK: return slack;
                case LIMIT: return limit;
                case LENGTH: return length;
                default: return startBy(limit);
            }
        }

        void settle(int what, int v) {
            switch (what) {
                case KIND: kind = v; break;
                case TARGET: target = v; break;
                case SLACK: slack = v; break;
                case LIMIT: limit = v; break;
                default: break;
            }
        }

        int startBy(int someLimit) {
            return kind == HEAD || kind == BOTH ? someLimit / 2 : 0;
        }

        int offset(int place) {
            int plain = values[place] - target;
            if (kind != CAPPED && kind != BOTH) return plain;
            return Math.max(-CAP, Math.min(CAP, plain));
        }

        int total(int first) {
            int together = 0;
            for (int i = 0; i < first; i++) together += values[i];
            return together;
        }

        long gainAbove(int t) {
            return squareApart(t, total(t), total(length));
        }

        long gainBelow(int t) {
            return (long) t * (length - t);
        }

        private long squareApart(int t, int first, int all) {
            long apart = (long) length * first - (long) t * all;
            return apart * apart;
        }

        int changePlace() {
            int all = total(length);
            int first = 0;
            int best = NOWHERE;
            long bestAbove = -1;
            long bestBelow = 1;
            for (int t = 1; t < length; t++) {
                first += values[t - 1];
                long above = squareApart(t, first, all);
                long below = gainBelow(t);
                if (above * bestBelow <= bestAbove * below) continue;
                best = t;
                bestAbove = above;
                bestBelow = below;
            }
            return best;
        }
    }

    /** Rows of two numbers each, told by hand. */
    private static final class Rows {
        private final int[] whats;
        private final int[] numbers;
        private final int most;
        private int length;

        Rows(int most) {
            this.most = Math.max(0, most);
            whats = new int[this.most];
            numbers = new int[this.most];
        }

        int clear() {
            length = 0;
            return 0;
        }

        int add(int what, int number) {
            if (length >= most) return FULL;
            whats[length] = what;
            numbers[length] = number;
            length++;
            return length;
        }

        void become(Rows other) {
            length = Math.min(other.length, most);
            for (int r = 0; r < length; r++) {
                whats[r] = other.whats[r];
                numbers[r] = other.numbers[r];
            }
        }
    }

    /** All that THE IMAGE keeps. */
    private static final class Setup {
        private final Stream[] streams = new Stream[STREAMS];
        private final int[] weights = new int[STEPS];
        private final Rows seen = new Rows(MOST_SEEN);
        private final Rows planned = new Rows(MOST_PLANNED);
        private final Rows booked = new Rows(MOST_BOOKED);

        Setup() {
            for (int i = 0; i < STREAMS; i++) streams[i] = new Stream();
            for (int i = 0; i < STEPS; i++) weights[i] = 1;
        }

        void become(Setup other) {
            for (int i = 0; i < STREAMS; i++) streams[i].become(other.streams[i]);
            System.arraycopy(other.weights, 0, weights, 0, STEPS);
            seen.become(other.seen);
            planned.become(other.planned);
            booked.become(other.booked);
        }

        int allValues() {
            int all = 0;
            for (int i = 0; i < STREAMS; i++) all += streams[i].length;
            return all;
        }

        int jointPlaces() {
            int fewest = 0;
            for (int i = 0; i < STREAMS; i++) {
                int many = streams[i].length;
                if (many > 0 && (fewest == 0 || many < fewest)) fewest = many;
            }
            return fewest;
        }

        int jointOffset(int place) {
            int all = 0;
            for (int i = 0; i < STREAMS; i++) {
                if (streams[i].has(place)) all += streams[i].offset(place);
            }
            return all;
        }

        int jointSetting(int what) {
            int all = 0;
            for (int i = 0; i < STREAMS; i++) {
                if (streams[i].length > 0) all += streams[i].setting(what);
            }
            return all;
        }
    }

    /** SUMS and ALARMS along a row of OFFs. */
    private static final class Chart {
        private int slack;
        private int limit;
        private int start;
        private boolean once;
        private final int[] ups = new int[MOST_VALUES];
        private final int[] downs = new int[MOST_VALUES];
        private int found;
        private final int[] places = new int[MOST_VALUES];
        private final int[] sides = new int[MOST_VALUES];
        private final int[] sizes = new int[MOST_VALUES];

        void begin(int itsSlack, int itsLimit, int itsStart, boolean itsOnce) {
            slack = itsSlack;
            limit = itsLimit;
            start = itsStart;
            once = itsOnce;
            found = 0;
        }

        void follow(int[] offs, int n) {
            int up = start;
            int down = start;
            for (int i = 0; i < n; i++) {
                if (once && found > 0) {
                    up = 0;
                    down = 0;
                } else {
                    up = Math.max(0, up + offs[i] - slack);
                    down = Math.max(0, down - offs[i] - slack);
                    if (alarmed(i, up, down)) {
                        up = start;
                        down = start;
                    }
                }
                ups[i] = up;
                downs[i] = down;
            }
        }

        private boolean alarmed(int place, int up, int down) {
            if (up < limit && down < limit) return false;
            places[found] = place;
            sides[found] = up >= limit ? UP : DOWN;
            sizes[found] = up >= limit ? up : down;
            found++;
            return true;
        }

        int firstPlace() {
            return found == 0 ? NOWHERE : places[0];
        }

        boolean alarmsAt(int place) {
            for (int k = 0; k < found; k++) {
                if (places[k] == place) return true;
            }
            return false;
        }
    }

    /** THE CHAIN: LEVELS, led from one to another by the DICE. */
    private static final class Chain {
        private int slack;
        private int limit;
        private final int[] weights = new int[STEPS];
        private int allWeights;
        private long above;
        private long below = 1;
        private final long[] ways = new long[MOST_LEVELS];
        private final long[] waysNext = new long[MOST_LEVELS];
        private final boolean[] reached = new boolean[MOST_LEVELS];
        private final boolean[] alarming = new boolean[MOST_LEVELS];
        private final int[] order = new int[MOST_LEVELS];
        private final int[] rank = new int[MOST_LEVELS];
        private final long[][] system = new long[MOST_LEVELS][MOST_LEVELS + 1];

        void lay(int itsSlack, int itsLimit, int[] itsWeights) {
            slack = itsSlack;
            limit = itsLimit;
            allWeights = 0;
            for (int i = 0; i < STEPS; i++) {
                weights[i] = itsWeights[i];
                allWeights += weights[i];
            }
        }

        /** Where STEP i (from 0) leads: a LEVEL, or LIMIT for an ALARM. */
        private int next(int level, int i) {
            return Math.min(limit, Math.max(0, level + i - MIDDLE_STEP - slack));
        }

        /** How likely there is an ALARM within n STEPS, not in lowest terms. */
        void walk(int level, int n) {
            above = 0;
            below = 1;
            for (int l = 0; l < limit; l++) ways[l] = l == level ? 1 : 0;
            for (int k = 0; k < n; k++) {
                above *= allWeights;
                below *= allWeights;
                walkOneStep();
            }
        }

        private void walkOneStep() {
            for (int l = 0; l < limit; l++) waysNext[l] = 0;
            for (int l = 0; l < limit; l++) {
                for (int i = 0; i < STEPS; i++) {
                    int to = next(l, i);
                    long more = ways[l] * weights[i];
                    if (to < limit) waysNext[to] += more;
                    else above += more;
                }
            }
            System.arraycopy(waysNext, 0, ways, 0, MOST_LEVELS);
        }

        /** Whether an ALARM can be had from every LEVEL to which STEPS lead from this one. */
        boolean surelyEnds(int level) {
            for (int l = 0; l < limit; l++) {
                reached[l] = l == level;
                alarming[l] = false;
            }
            // No way without a loop is longer than there are LEVELS.
            for (int k = 0; k < limit; k++) spread();
            for (int l = 0; l < limit; l++) {
                if (reached[l] && !alarming[l]) return false;
            }
            return true;
        }

        private void spread() {
            for (int l = 0; l < limit; l++) {
                for (int i = 0; i < STEPS; i++) {
                    if (weights[i] == 0) continue;
                    int to = next(l, i);
                    if (to >= limit || alarming[to]) alarming[l] = true;
                    if (to < limit && reached[l]) reached[to] = true;
                }
            }
        }

        /** RUN from a LEVEL that surely ends, not in lowest terms. */
        void solve(int level) {
            int size = rankReached(level);
            fillSystem(size);
            eliminate(size);
            above = system[size - 1][size];
            below = Math.max(1L, system[size - 1][size - 1]);
        }

        /** Ranks the reached LEVELS, the asked one last, so that elimination alone lays its RUN bare. */
        private int rankReached(int level) {
            int size = 0;
            for (int l = 0; l < limit; l++) {
                if (!reached[l] || l == level) continue;
                order[size] = l;
                rank[l] = size;
                size++;
            }
            order[size] = level;
            rank[level] = size;
            return size + 1;
        }

        private void fillSystem(int size) {
            for (int r = 0; r < size; r++) {
                for (int c = 0; c < size; c++) system[r][c] = 0;
                system[r][r] = allWeights;
                system[r][size] = allWeights;
                for (int i = 0; i < STEPS; i++) {
                    int to = next(order[r], i);
                    if (weights[i] > 0 && to < limit) system[r][rank[to]] -= weights[i];
                }
            }
        }

        /**
         * Bareiss's elimination: every entry stays a minor of the system, so that all divisions
         * are exact and no product leaves the longs. The system's leading minors are above 0
         * (each LEVEL in it leads to an ALARM), so rows need not be swapped.
         */
        private void eliminate(int size) {
            long before = 1;
            for (int k = 0; k < size - 1 && before != 0; k++) {
                for (int r = k + 1; r < size; r++) {
                    for (int c = k + 1; c <= size; c++) {
                        system[r][c] = (system[k][k] * system[r][c] - system[r][k] * system[k][c]) / before;
                    }
                }
                before = system[k][k];
            }
        }
    }

    /** THE TEXT, and the CLAUSES found in it. */
    private static final class Text {
        // What may be due at a place of THE TEXT.
        private static final int NOT_SO = -1, LETTER = 0, WHICH = 1, DIGIT = 2;
        private static final int NUMBER = 3, FIRST = 4, SECOND = 5, BEHIND = 6;

        private final int[] signs = new int[MOST_SIGNS];
        private int length;
        private int clauses;
        private final int[] letters = new int[MOST_CLAUSES];
        private final int[] digits = new int[MOST_CLAUSES];
        private final int[] numbers = new int[MOST_CLAUSES];
        private boolean negative;

        void add(int sign) {
            if (length >= MOST_SIGNS) return;
            signs[length] = sign;
            length++;
        }

        /** The place of the FAULT, or NO_FAULT; the CLAUSES ahead of it are told apart. */
        int fault() {
            clauses = 0;
            int due = LETTER;
            for (int p = 0; p < length; p++) {
                due = take(due, signs[p]);
                if (due == NOT_SO) return p;
            }
            return due == SECOND || due == BEHIND ? NO_FAULT : length;
        }

        /** Takes a sign where something is due: what is due then, or NOT_SO. */
        private int take(int due, int sign) {
            switch (due) {
                case LETTER: return takeLetter(sign);
                case WHICH: return takeWhich(sign);
                case DIGIT: return takeDigit(sign, BEHIND);
                case NUMBER:
                    negative = sign == '-';
                    return negative ? FIRST : takeDigit(sign, SECOND);
                case FIRST: return takeDigit(sign, SECOND);
                case SECOND: return isDigit(sign) ? takeDigit(sign, BEHIND) : takeEnd(sign);
                default: return takeEnd(sign);
            }
        }

        private int takeLetter(int sign) {
            if (!takesNumber(sign) && sign != 'k' && sign != 's' && sign != 'd') return NOT_SO;
            letters[clauses] = sign;
            numbers[clauses] = 0;
            clauses++;
            negative = false;
            return WHICH;
        }

        private int takeWhich(int sign) {
            if (!isDigit(sign)) return NOT_SO;
            digits[clauses - 1] = sign - '0';
            return takesNumber(letters[clauses - 1]) ? NUMBER : DIGIT;
        }

        private int takeDigit(int sign, int then) {
            if (!isDigit(sign)) return NOT_SO;
            int digit = sign - '0';
            int so = numbers[clauses - 1] * 10;
            numbers[clauses - 1] = negative ? so - digit : so + digit;
            return then;
        }

        private int takeEnd(int sign) {
            return sign == ';' && clauses < MOST_CLAUSES ? LETTER : NOT_SO;
        }

        private static boolean takesNumber(int letter) {
            return letter == 'v' || letter == 't' || letter == 'l';
        }

        private static boolean isDigit(int sign) {
            return sign >= '0' && sign <= '9';
        }
    }

    /** A TAPE: its items are kept as longs, each narrowed to its sort. */
    private static final class Tape {
        private int sort = EMPTY;
        private int length;
        private final long[] items = new long[MOST_ITEMS];

        void lay(int itsSort, int n) {
            sort = itsSort;
            length = Math.max(0, Math.min(MOST_ITEMS, n));
            for (int i = 0; i < length; i++) items[i] = 0;
        }

        boolean has(int i) {
            return i >= 0 && i < length;
        }

        boolean holds(int from, int n) {
            return from >= 0 && n >= 0 && n <= length && from <= length - n;
        }

        long narrowed(long v) {
            switch (sort) {
                case BYTES: return (byte) v;
                case SHORTS: return (short) v;
                case INTS: return (int) v;
                case BOOLEANS: return v != 0 ? 1 : 0;
                default: return v;
            }
        }
    }
}
