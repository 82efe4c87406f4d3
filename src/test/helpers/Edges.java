import java.lang.reflect.InvocationTargetException;
import java.lang.reflect.Method;
import java.util.ArrayList;
import java.util.Arrays;
import java.util.Comparator;
import java.util.List;
import java.util.Set;
import java.util.TreeSet;

/**
 * What the tests of the edges share. A test is a static method without arguments whose name begins with p and the
 * promise's two digits; each is run and told by its name. Objects are held below the 512 calls that are promised.
 */
final class Edges {
    static final long NO = Long.MIN_VALUE;
    static final int LEAST = Integer.MIN_VALUE, MOST = Integer.MAX_VALUE;
    /** Wrong as STREAM of every call that does not take -1 for "none then". */
    static final int[] NO_STREAMS = {-1, 4, -2, 5, LEAST, MOST};
    static final int[] NO_TAPES = {-1, 6, -2, 7, LEAST, MOST};
    static final int[] NO_PARTS = {-1, 2, LEAST, MOST};

    interface Call { long on(ShiftCharts x); }

    interface Made { ShiftCharts anew(); }

    static final Made FRESH = ShiftCharts::new, RICH = Edges::rich, FULL = Edges::full;
    private static final Made[] STATES = {FRESH, RICH, FULL};

    private static int wrong = 0;
    private static int asked = 0;

    private Edges() { }

    // ---- running

    static void run(Class<?> tests, int first, int last) {
        Method[] all = tests.getDeclaredMethods();
        Arrays.sort(all, Comparator.comparing(Method::getName));
        Set<Integer> tested = new TreeSet<>();
        int many = 0;
        int failed = 0;
        for (Method test : all) {
            if (!test.getName().matches("p\\d\\d_\\w+")) continue;
            tested.add(Integer.parseInt(test.getName().substring(1, 3)));
            many++;
            if (!holds(test)) failed++;
        }
        for (int promise = first; promise <= last; promise++) {
            if (tested.contains(promise)) continue;
            System.out.println("promise " + promise + " has no test of an edge");
            failed++;
        }
        System.out.println(many + " tests, " + asked + " answers, " + failed + " tests failed");
        if (failed != 0) System.exit(1);
    }

    private static boolean holds(Method test) {
        wrong = 0;
        try {
            test.setAccessible(true);
            test.invoke(null);
        } catch (InvocationTargetException e) {
            wrong++;
            System.out.println(test.getName() + ": " + e.getCause());
        } catch (IllegalAccessException e) {
            wrong++;
            System.out.println(test.getName() + ": " + e);
        }
        if (wrong > 0) System.out.println("FAILED " + test.getName());
        return wrong == 0;
    }

    static void due(String what, long got, long want) {
        asked++;
        if (got == want) return;
        wrong++;
        System.out.println(what + " answered " + got + ", due is " + want);
    }

    // ---- calls that leave everything as it was

    /** The call answers so, and leaves everything as it was. */
    static void keeps(Made state, String what, long want, Call call) {
        due(what, call.on(state.anew()), want);
        for (int way = 0; way < 3; way++) {
            ShiftCharts x = state.anew();
            ShiftCharts twin = state.anew();
            call.on(x);
            // What no call shows comes to light behind these: what THE TEXT says, and THE IMAGE.
            if (way == 1) due(what + ", then read()", x.read(), twin.read());
            if (way == 2) due(what + ", then undo()", x.undo(), twin.undo());
            List<String> now = told(x);
            List<String> was = told(twin);
            due(what + " leaves all as it was (way " + way + "; " + firstUnlike(now, was) + ")", now.equals(was) ? 1 : 0, 1);
        }
    }

    /** As keeps, for a new object, one of which all is in use, and one that is full. */
    static void everywhere(String what, long want, Call call) {
        for (Made state : STATES) keeps(state, what, want, call);
    }

    /** What is asked leaves everything as it was, whatever the answer is. */
    static void asks(String what, Call call) {
        for (Made state : STATES) keeps(state, what, call.on(state.anew()), call);
    }

    private static String firstUnlike(List<String> now, List<String> was) {
        for (int i = 0; i < now.size() && i < was.size(); i++) {
            if (!now.get(i).equals(was.get(i))) return now.get(i) + ", was " + was.get(i);
        }
        return "as many";
    }

    /** All that calls show of an object without changing it, in some 200 calls. */
    static List<String> told(ShiftCharts x) {
        List<String> all = new ArrayList<>();
        for (int s = 0; s < 4; s++) {
            for (int what = 0; what < 6; what++) all.add("of " + s + " " + what + ": " + x.of(s, what));
            for (int i = 0; i <= x.of(s, 4); i++) all.add("at " + s + " " + i + ": " + x.at(s, i));
            all.add("alarms " + s + ": " + x.alarms(s));
            all.add("fits " + s + ": " + x.fits(s, 0) + " " + x.fits(s, 1));
        }
        for (int step = -2; step <= 2; step++) all.add("weighs " + step + ": " + x.weighs(step));
        for (int what = 0; what < 5; what++) all.add("count " + what + ": " + x.count(what));
        for (int what = 0; what < 3; what++) all.add("ends " + what + ": " + x.ends(what));
        all.add("looked: " + x.looked());
        for (int t = 0; t < 6; t++) tellTape(x, t, all);
        return all;
    }

    private static void tellTape(ShiftCharts x, int t, List<String> all) {
        int n = 0;
        for (long item = x.peek(t, n); item != NO; item = x.peek(t, n)) {
            all.add("peek " + t + " " + n + ": " + item);
            n++;
        }
        all.add("how many of " + t + ": " + n);
        // No items shifted: tells only whether the sorts are alike, and whether something is there.
        for (int u = t; u < 6; u++) all.add("sorts " + t + " " + u + ": " + x.shift(t, 0, u, 0, 0));
    }

    // ---- objects to begin with

    static void come(ShiftCharts x, int stream, int... values) {
        for (int v : values) x.value(stream, v);
    }

    static ShiftCharts with(int stream, int... values) {
        ShiftCharts x = new ShiftCharts();
        come(x, stream, values);
        return x;
    }

    static ShiftCharts many(int stream, int n, int v) {
        ShiftCharts x = new ShiftCharts();
        for (int i = 0; i < n; i++) x.value(stream, v);
        return x;
    }

    static ShiftCharts dice(int... weights) {
        ShiftCharts x = new ShiftCharts();
        for (int i = 0; i < weights.length; i++) x.weight(i - 2, weights[i]);
        return x;
    }

    static void set(ShiftCharts x, int stream, int kind, int target, int slack, int limit) {
        x.set(stream, 0, kind);
        x.set(stream, 1, target);
        x.set(stream, 2, slack);
        x.set(stream, 3, limit);
    }

    static void feed(ShiftCharts x, String text) {
        for (int i = 0; i < text.length(); i++) x.feed(text.charAt(i));
    }

    static long read(ShiftCharts x, String text) {
        feed(x, text);
        return x.read();
    }

    private static void rows(ShiftCharts x) {
        x.see(0, 0);
        x.see(3, 1);
        x.plan(1, 2);
        x.plan(0, 9);
        x.plan(3, 1);
        x.plan(2, 0);
        for (int s = 0; s < 4; s++) x.book(s, x.alarms(s));
    }

    private static void items(ShiftCharts x) {
        int[] many = {3, 2, 2, 4, 2};
        for (int t = 0; t < 5; t++) {
            x.tape(t, t, many[t]);
            for (int i = 0; i < many[t]; i++) x.item(t, i, 7 - i);
        }
    }

    /** All is in use, THE IMAGE is otherwise than all is now, and THE TEXT is a set-up that is not read yet. */
    private static ShiftCharts rich() {
        ShiftCharts x = with(0, 5, -3, 9, 0, 7);
        come(x, 1, 20, 1, -6);
        come(x, 3, 2, 6, -8, 1);
        set(x, 1, 3, 2, 0, 7);
        set(x, 2, 2, -4, 2, 6);
        set(x, 3, 4, 1, 1, 3);
        x.weight(-2, 2);
        x.weight(-1, 0);
        x.weight(2, 5);
        rows(x);
        x.image();
        x.drop(0);
        x.value(1, 3);
        x.value(2, -7);
        x.set(0, 3, 5);
        x.set(3, 0, 1);
        x.weight(0, 4);
        x.see(-1, 0);
        x.plan(-1, 0);
        x.book(-1, 0);
        rows(x);
        x.see(1, 0);
        x.plan(0, -9);
        feed(x, "v25;k14;d23;s30;l1-9;t2-11");
        items(x);
        return x;
    }

    /** STREAM 0, SEEN, the PLAN, the BOOK and THE TEXT are full, a TAPE is as long as can be; an IMAGE is taken. */
    private static ShiftCharts full() {
        ShiftCharts x = new ShiftCharts();
        for (int i = 0; i < 40; i++) x.value(0, i % 7 - 2);
        come(x, 3, 4, -4);
        x.set(0, 3, 6);
        for (int i = 0; i < 6; i++) x.see(i % 2 * 3, i / 2 * 13);
        for (int i = 0; i < 8; i++) x.plan(i % 4, i % 4 == 3 ? i * 2 : i % 4 + 1);
        for (int i = 0; i < 8; i++) x.book(i % 4, x.alarms(i % 4));
        for (int i = 0; i < 100; i++) x.feed("v07;".charAt(i % 4));
        x.tape(0, 3, 60);
        for (int i = 0; i < 4; i++) x.item(0, i * 17, i + 1);
        x.image();
        return x;
    }
}
