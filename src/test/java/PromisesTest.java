/** For each promise of the document: ordinary inputs, its edges, wrong inputs, told by hand. */
public final class PromisesTest {
    private static final long NO = Long.MIN_VALUE;
    private static final int LEAST = Integer.MIN_VALUE, MOST = Integer.MAX_VALUE;
    private static int wrong = 0;
    private static int asked = 0;

    private static void due(String what, long got, long want) {
        asked++;
        if (got == want) return;
        wrong++;
        System.out.println(what + " answered " + got + ", due is " + want);
    }

    public static void main(String[] args) {
        newObject();
        streams();
        setUps();
        sumsAndAlarms();
        kinds();
        joint();
        changes();
        dice();
        runs();
        likelihoods();
        whatWouldBe();
        seen();
        oddsAndMeans();
        plans();
        books();
        judging();
        images();
        counts();
        tapes();
        shifts();
        refusalsChangeNothing();
        System.out.println(asked + " answers, " + wrong + " of them not as due");
        if (wrong != 0) System.exit(1);
    }

    private static ShiftCharts with(int stream, int... values) {
        ShiftCharts x = new ShiftCharts();
        come(x, stream, values);
        return x;
    }

    private static void come(ShiftCharts x, int stream, int... values) {
        for (int v : values) x.value(stream, v);
    }

    private static int type(ShiftCharts x, String text) {
        for (char sign : text.toCharArray()) x.feed(sign);
        return x.read();
    }

    private static ShiftCharts dice(int... weights) {
        ShiftCharts x = new ShiftCharts();
        for (int i = 0; i < weights.length; i++) x.weight(i - 2, weights[i]);
        return x;
    }

    private static void newObject() {
        ShiftCharts x = new ShiftCharts();
        long[] first = {0, 0, 1, 4, 0, 0};
        for (int s = 0; s < 4; s++) {
            for (int what = 0; what < 6; what++) due("1: of(" + s + ", " + what + ")", x.of(s, what), first[what]);
        }
        for (int step = -2; step <= 2; step++) due("1: weighs(" + step + ")", x.weighs(step), 1);
        for (int what = 0; what < 5; what++) due("1: count(" + what + ")", x.count(what), 0);
        for (int t = 0; t < 6; t++) due("1: item(" + t + ", 0, 0)", x.item(t, 0, 0), -11);
        due("1: undo", x.undo(), -3);
        due("1: NO", ShiftCharts.NO, NO);
        due("1: NONE", ShiftCharts.NONE, -1);
        due("1: BAD", ShiftCharts.BAD, -2);
        due("1: STATE", ShiftCharts.STATE, -3);
        due("1: FULL", ShiftCharts.FULL, -4);
    }

    private static void streams() {
        ShiftCharts x = new ShiftCharts();
        due("2: first", x.value(3, -20), 1);
        due("2: second", x.value(3, 20), 2);
        due("2: NONE ahead of BAD", x.value(4, 21), -1);
        due("2: NONE", x.value(-1, 0), -1);
        due("2: BAD above", x.value(3, 21), -2);
        due("2: BAD below", x.value(3, -21), -2);
        for (int i = 3; i <= 40; i++) due("2: value " + i, x.value(3, i - 20), i);
        due("2: FULL", x.value(3, 0), -4);
        due("2: BAD ahead of FULL", x.value(3, MOST), -2);
        due("2: another has room", x.value(0, 7), 1);

        due("6: first", x.at(3, 0), -20);
        due("6: last", x.at(3, 39), 20);
        due("6: beyond", x.at(3, 40), NO);
        due("6: below", x.at(3, -1), NO);
        due("6: no VALUE there", x.at(0, 1), NO);
        due("6: no STREAM", x.at(4, 0), NO);
        due("6: none at all", x.at(1, 0), NO);

        due("3: drop", x.drop(3), 39);
        due("3: the last went", x.at(3, 39), NO);
        due("3: the one ahead stays", x.at(3, 38), 19);
        due("3: drop to none", x.drop(0), 0);
        due("3: STATE", x.drop(0), -3);
        due("3: NONE", x.drop(4), -1);
        due("3: NONE below", x.drop(LEAST), -1);
        settings();
        offs();
    }

    private static void settings() {
        ShiftCharts x = new ShiftCharts();
        int[][] reach = {{0, 4, 0}, {-20, 20, 0}, {0, 5, 1}, {1, 12, 4}};
        for (int what = 0; what < 4; what++) {
            int low = reach[what][0], high = reach[what][1];
            due("4: below " + what, x.set(2, what, low - 1), NO);
            due("4: above " + what, x.set(2, what, high + 1), NO);
            due("4: low " + what, x.set(2, what, low), reach[what][2]);
            due("4: high " + what, x.set(2, what, high), low);
            due("5: now " + what, x.of(2, what), high);
        }
        due("4: no STREAM", x.set(4, 0, 0), NO);
        due("4: no STREAM below", x.set(-1, 0, 0), NO);
        due("4: no what", x.set(0, 4, 0), NO);
        due("4: no what below", x.set(0, -1, 0), NO);
        due("4: others stay", x.of(1, 3), 4);
        due("5: no STREAM", x.of(4, 0), NO);
        due("5: no what", x.of(0, 6), NO);
        due("5: no what below", x.of(0, -1), NO);
        int[] starts = {0, 3, 0, 3, 0};
        x.set(2, 3, 7);
        for (int kind = 0; kind < 5; kind++) {
            x.set(2, 0, kind);
            due("5: START of " + kind, x.of(2, 5), starts[kind]);
        }
        x.set(2, 0, 1);
        x.set(2, 3, 1);
        due("5: START of LIMIT 1", x.of(2, 5), 0);
        x.set(2, 3, 12);
        due("5: START of LIMIT 12", x.of(2, 5), 6);
        x.value(2, 3);
        due("5: how many VALUES", x.of(2, 4), 1);
    }

    private static void offs() {
        ShiftCharts x = with(1, 20, -20, 3, 8, -3);
        x.set(1, 1, 2);
        long[] plain = {18, -22, 1, 6, -5};
        long[] held = {5, -5, 1, 5, -5};
        for (int kind = 0; kind < 5; kind++) {
            x.set(1, 0, kind);
            for (int i = 0; i < 5; i++) {
                due("7: kind " + kind + ", place " + i, x.off(1, i), kind == 2 || kind == 3 ? held[i] : plain[i]);
            }
        }
        x.set(1, 0, 0);
        x.set(1, 1, -20);
        due("7: the greatest", x.off(1, 0), 40);
        due("7: beyond", x.off(1, 5), NO);
        due("7: below", x.off(1, -1), NO);
        due("7: no STREAM", x.off(4, 0), NO);
        due("7: no VALUES", x.off(0, 0), NO);
    }

    private static void setUps() {
        ShiftCharts x = new ShiftCharts();
        due("8: first", x.feed(0), 1);
        due("8: second", x.feed(127), 2);
        due("8: BAD above", x.feed(128), -2);
        due("8: BAD below", x.feed(-1), -2);
        for (int i = 3; i <= 100; i++) due("8: sign " + i, x.feed('v'), i);
        due("8: FULL", x.feed('v'), -4);
        due("8: BAD ahead of FULL", x.feed(128), -2);
        due("9: FAULT at the first", x.read(), -10);
        due("9: empty by the FAULT", x.count(4), 0);
        due("9: nothing", x.read(), -10);

        due("9: all sorts", type(x, "v0-3;v112;t2-20;k34;s15;l212;d45;v07"), 8);
        due("9: empty behind", x.count(4), 0);
        due("9: v", x.at(0, 0), -3);
        due("9: v of two digits", x.at(1, 0), 12);
        due("9: t", x.of(2, 1), -20);
        due("9: k", x.of(3, 0), 4);
        due("9: s", x.of(1, 2), 5);
        due("9: l", x.of(2, 3), 12);
        due("9: d", x.weighs(2), 5);
        due("9: v in its turn", x.at(0, 1), 7);
        due("9: refused are not counted", type(x, "v921;v021;k05;k90;s06;l00;l0-1;d50;d06;v0-9"), 1);
        due("9: the last was done", x.at(0, 2), -9);
        due("9: d 0 is STEP -2", type(x, "d03"), 1);
        due("9: STEP -2", x.weighs(-2), 3);
        due("9: a WEIGHT that was 0", type(x, "d00;d02"), 2);
        due("9: -0, 00", type(x, "v0-0;v000;v0-05"), 3);
        due("9: -05", x.at(0, 5), -5);
        faults();
        fullByText();
    }

    private static void faults() {
        String[] texts = {"x", "v", "v0", "v0-", "vx", "v0x", "v0--", "v0123", "v0-123", "k0", "k0-", "k012", "kk",
            "v01;", "v01;;", "v01,", "v01 ", " v01", "s01;d", "t0-1x", "V01", "d0", "l0", "v01;k00x", "v0;1", "-",
            "v01;v01;v01;v01;v01;v01;v01;v01;v01;v01;v01;v01;", "v01;v01;v01;v01;v01;v01;v01;v01;v01;v01;v01;v01;v01"};
        int[] faults = {0, 1, 2, 3, 1, 2, 3, 4, 5, 2, 2, 3, 1,
            4, 4, 3, 3, 0, 5, 4, 0, 2, 2, 7, 2, 0,
            47, 47};
        for (int i = 0; i < texts.length; i++) {
            ShiftCharts x = new ShiftCharts();
            due("9: FAULT of " + texts[i], type(x, texts[i]), -10 - faults[i]);
            due("9: nothing done by " + texts[i], x.count(0), 0);
        }
        ShiftCharts x = new ShiftCharts();
        due("9: twelve", type(x, "v01;v01;v01;v01;v01;v01;v01;v01;v01;v01;v01;v01"), 12);
        due("9: twelve long ones",
            type(x, "v0-20;v0-20;v0-20;v0-20;v0-20;v0-20;v0-20;v0-20;v0-20;v0-20;v0-20;v0-20"), 12);
        due("9: twenty-four are there", x.count(0), 24);
    }

    private static void fullByText() {
        ShiftCharts x = new ShiftCharts();
        for (int i = 0; i < 39; i++) x.value(0, 0);
        due("9: only one has room", type(x, "v01;v02;v13"), 2);
        due("9: it is the first", x.at(0, 39), 1);
    }

    private static void sumsAndAlarms() {
        ShiftCharts x = with(2, 3, 3, -4, -4, 0, 5, 4);
        long[] ups = {2, 0, 0, 0, 0, 0, 3};
        long[] downs = {0, 0, 3, 0, 0, 0, 0};
        x.set(2, 3, 4);
        for (int i = 0; i < 7; i++) {
            due("10: UP " + i, x.sum(2, 0, i), ups[i]);
            due("10: DOWN " + i, x.sum(2, 1, i), downs[i]);
        }
        due("10: beyond", x.sum(2, 0, 7), -1);
        due("10: below", x.sum(2, 0, -1), -1);
        due("10: no side", x.sum(2, 2, 0), -1);
        due("10: no side below", x.sum(2, -1, 0), -1);
        due("10: no STREAM", x.sum(4, 0, 0), -1);

        due("11: alarms", x.alarms(2), 3);
        due("11: none", x.alarms(0), 0);
        due("11: NONE", x.alarms(4), -1);
        due("11: NONE below", x.alarms(-1), -1);

        int[][] told = {{1, 0, 4}, {3, 1, 6}, {5, 0, 4}};
        for (int k = 0; k < 3; k++) {
            for (int what = 0; what < 3; what++) {
                due("12: " + k + ", " + what, x.alarm(2, k, what), told[k][what]);
            }
        }
        due("12: no such", x.alarm(2, 3, 0), -1);
        due("12: below", x.alarm(2, -1, 0), -1);
        due("12: no what", x.alarm(2, 0, 3), -1);
        due("12: no what below", x.alarm(2, 0, -1), -1);
        due("12: no STREAM", x.alarm(-1, 0, 0), -1);

        int[] latest = {-5, 1, 1, 3, 3, 5, 5};
        for (int i = 0; i < 7; i++) due("13: " + i, x.latest(2, i), latest[i]);
        x.alarms(0);
        due("13: of this STREAM", x.latest(2, 6), 5);
        due("13: beyond", x.latest(2, MOST), 5);
        due("13: below", x.latest(2, -1), -1);
        due("13: no STREAM", x.latest(4, 0), -1);
        due("13: no VALUES", x.latest(0, 0), -5);
    }

    private static void kinds() {
        ShiftCharts x = with(0, 4, -9, 9, 1);
        x.set(0, 3, 6);
        int[][] ups = {{3, 0, 0, 0}, {3, 3, 3, 3}, {3, 0, 4, 4}, {3, 3, 3, 3}, {3, 0, 0, 0}};
        int[][] downs = {{0, 0, 0, 0}, {3, 3, 3, 1}, {0, 4, 0, 0}, {3, 3, 3, 1}, {0, 0, 0, 0}};
        int[] alarms = {2, 3, 0, 3, 1};
        for (int kind = 0; kind < 5; kind++) {
            x.set(0, 0, kind);
            for (int i = 0; i < 4; i++) {
                due("10: kind " + kind + " UP " + i, x.sum(0, 0, i), ups[kind][i]);
                due("10: kind " + kind + " DOWN " + i, x.sum(0, 1, i), downs[kind][i]);
            }
            due("11: kind " + kind, x.alarms(0), alarms[kind]);
        }
        both();
        once();
    }

    private static void both() {
        // LIMIT 6, START 3, SLACK 1; OFFs held: 4, -5, 5, 1.
        ShiftCharts x = with(0, 4, -9, 9, 1);
        x.set(0, 3, 6);
        x.set(0, 0, 3);
        int[] sizes = {6, 7, 7};
        int[] sides = {0, 1, 0};
        for (int k = 0; k < 3; k++) {
            due("12: BOTH SIZE " + k, x.alarm(0, k, 2), sizes[k]);
            due("12: BOTH SIDE " + k, x.alarm(0, k, 1), sides[k]);
        }
    }

    private static void once() {
        ShiftCharts x = with(0, 5, 3, 9, -9);
        x.set(0, 0, 4);
        due("11: ONCE", x.alarms(0), 1);
        due("12: ONCE", x.alarm(0, 0, 2), 4);
        due("10: ONCE UP is 0 for good", x.sum(0, 0, 1), 0);
        due("10: ONCE DOWN is 0 for good", x.sum(0, 1, 3), 0);
        due("13: ONCE", x.latest(0, 39), 0);
        x.set(0, 3, 12);
        due("10: ONCE ahead of its ALARM", x.sum(0, 0, 1), 6);
        due("13: ONCE later", x.latest(0, 39), 2);
        ShiftCharts y = with(0, 0);
        y.set(0, 2, 0);
        y.set(0, 3, 1);
        due("11: LIMIT 1, OFF 0", y.alarms(0), 0);
        y.value(0, -1);
        due("12: DOWN", y.alarm(0, 0, 1), 1);
    }

    private static void joint() {
        ShiftCharts x = new ShiftCharts();
        int[] empty = {0, 0, -5, -5, -5};
        for (int what = 0; what < 5; what++) due("14: empty " + what, x.joint(what), empty[what]);
        come(x, 1, 9, -20, 2);
        come(x, 3, 1, -1, 0, 7, 7);
        x.set(1, 0, 3);
        x.set(1, 2, 2);
        x.set(3, 0, 4);
        x.set(0, 3, 12);
        // OFFs 5 + 1, -5 - 1, 2 + 0; SLACK 3; LIMIT 8, without STREAMS that have no VALUES.
        int[] none = {3, 0, -5, -5, -5};
        for (int what = 0; what < 5; what++) due("14: quiet " + what, x.joint(what), none[what]);
        x.set(3, 3, 1);
        x.set(1, 3, 2);
        int[] some = {3, 2, 0, 0, 3};
        for (int what = 0; what < 5; what++) due("14: LIMIT 3 " + what, x.joint(what), some[what]);
        x.set(1, 1, 10);
        x.set(1, 0, 0);
        int[] down = {3, 2, 1, 1, 28};
        for (int what = 0; what < 5; what++) due("14: DOWN " + what, x.joint(what), down[what]);
        ShiftCharts y = with(0, 9);
        come(y, 1, 0, 9);
        int[] one = {1, 0, -5, -5, -5};
        for (int what = 0; what < 5; what++) due("14: one VALUE " + what, y.joint(what), one[what]);
        y.set(0, 3, 3);
        int[] seven = {1, 1, 0, 0, 7};
        for (int what = 0; what < 5; what++) due("14: STREAM 0 too " + what, y.joint(what), seven[what]);
        due("14: NONE", x.joint(5), -1);
        due("14: NONE below", x.joint(-1), -1);
    }

    private static void changes() {
        ShiftCharts x = with(0, 1, 1, 1, 5, 5);
        due("15: change", x.change(0), 3);
        due("16: above", x.gain(0, 3, 0), 96);
        due("16: below", x.gain(0, 3, 1), 1);
        due("16: t 1 above", x.gain(0, 1, 0), 16);
        due("16: t 2 above", x.gain(0, 2, 0), 128);
        due("16: t 2 below", x.gain(0, 2, 1), 3);
        due("16: t 0", x.gain(0, 0, 0), NO);
        due("16: t of all", x.gain(0, 5, 0), NO);
        due("16: t below", x.gain(0, -1, 0), NO);
        due("16: no part", x.gain(0, 1, 2), NO);
        due("16: no part below", x.gain(0, 1, -1), NO);
        due("16: no STREAM", x.gain(4, 1, 0), NO);
        due("15: TARGET does not matter", x.set(0, 1, 20), 0);
        due("16: TARGET does not matter", x.gain(0, 3, 0), 96);
        x.set(0, 0, 2);
        due("16: KIND does not matter", x.gain(0, 3, 0), 96);
        due("15: no VALUES", x.change(1), -5);
        x.value(1, 3);
        due("15: one VALUE", x.change(1), -5);
        x.value(1, 3);
        due("15: all alike, the least", x.change(1), 1);
        due("16: 0 is 0 by 1", x.gain(1, 1, 1), 1);
        come(x, 2, 1, 0, 0, 1);
        due("15: of several the least", x.change(2), 1);
        come(x, 3, 0, -1, 1);
        due("15: the last place", x.change(3), 2);
        due("15: below the line too", with(0, 1, 1, 5, 5, 5).change(0), 2);
        due("15: NONE", x.change(4), -1);
        due("15: NONE below", x.change(-1), -1);
        ShiftCharts y = new ShiftCharts();
        for (int i = 0; i < 40; i++) y.value(0, i < 20 ? -20 : 20);
        due("15: the middle", y.change(0), 20);
        due("16: the greatest", y.gain(0, 20, 0), 640000);
    }

    private static void dice() {
        ShiftCharts x = new ShiftCharts();
        due("17: was", x.weight(-2, 5), 1);
        due("17: was then", x.weight(-2, 0), 5);
        due("17: the other end", x.weight(2, 3), 1);
        due("17: NONE ahead of BAD", x.weight(3, 6), -1);
        due("17: NONE below", x.weight(-3, 0), -1);
        due("17: BAD above", x.weight(2, 6), -2);
        due("17: BAD below", x.weight(2, -1), -2);
        due("18: 2", x.weighs(2), 3);
        due("18: -2", x.weighs(-2), 0);
        due("18: 0", x.weighs(0), 1);
        due("18: NONE", x.weighs(3), -1);
        due("18: NONE below", x.weighs(-3), -1);
    }

    private static void runs() {
        ShiftCharts x = new ShiftCharts();
        due("19: from 0", x.run(0, 0, 0), 375);
        due("19: from 3", x.run(0, 3, 0), 275);
        due("19: below the line", x.run(0, 3, 1), 1);
        due("19: no LEVEL", x.run(0, 4, 0), NO);
        due("19: no LEVEL below", x.run(0, -1, 0), NO);
        due("19: no part", x.run(0, 0, 2), NO);
        due("19: no part below", x.run(0, 0, -1), NO);
        due("19: no STREAM", x.run(4, 0, 0), NO);
        x.set(0, 3, 7);
        due("19: LIMIT 7", x.run(0, 0, 0), NO);
        x.set(0, 3, 6);
        due("19: LIMIT 6", x.run(0, 0, 0), 5005);
        x.set(0, 0, 3);
        x.set(0, 1, 5);
        x.value(0, 20);
        due("19: KIND, TARGET, VALUES don't matter", x.run(0, 0, 0), 5005);

        ShiftCharts sure = dice(0, 0, 0, 0, 4);
        sure.set(0, 2, 0);
        due("19: two at a time", sure.run(0, 0, 0), 2);
        due("19: two at a time from 3", sure.run(0, 3, 0), 1);
        sure.set(0, 2, 2);
        due("19: never from 0", sure.run(0, 0, 0), NO);
        ShiftCharts none = dice(0, 0, 0, 0, 0);
        due("19: all WEIGHTS 0", none.run(0, 0, 0), NO);
        ShiftCharts part = dice(0, 0, 3, 2, 0);
        part.set(0, 2, 0);
        part.set(0, 3, 3);
        due("19: 15", part.run(0, 0, 0), 15);
        due("19: by 2", part.run(0, 0, 1), 2);
        waysUp();
    }

    private static void waysUp() {
        ShiftCharts x = dice(1, 0, 0, 0, 0);
        due("19: no way up", x.run(0, 3, 0), NO);
        ShiftCharts y = dice(1, 0, 0, 0, 1);
        y.set(0, 2, 2);
        due("19: STEP 2 less SLACK 2 stays", y.run(0, 3, 0), NO);
        ShiftCharts z = dice(0, 0, 0, 0, 1);
        z.set(0, 2, 1);
        due("19: one at a time", z.run(0, 0, 0), 4);
        due("19: the last one", z.run(0, 3, 0), 1);
        z.set(0, 3, 1);
        due("19: LIMIT 1", z.run(0, 0, 0), 1);
        z.set(0, 2, 5);
        due("19: SLACK 5", z.run(0, 0, 0), NO);
        // Up by 1 five times in six, else down by 1: from 3 it takes 6/5 + 6/25 + 6/125 + 6/625.
        ShiftCharts w = dice(0, 0, 1, 0, 5);
        due("19: up and down", w.run(0, 3, 0), 936);
        due("19: up and down, below", w.run(0, 3, 1), 625);
    }

    private static void likelihoods() {
        ShiftCharts x = new ShiftCharts();
        due("20: none in no STEPS", x.likely(0, 3, 0, 0), 0);
        due("20: 0 by 1", x.likely(0, 3, 0, 1), 1);
        due("20: one STEP", x.likely(0, 3, 1, 0), 1);
        due("20: by 5", x.likely(0, 3, 1, 1), 5);
        due("20: 107819", x.likely(0, 3, 8, 0), 107819);
        due("20: by 5 to the 8th", x.likely(0, 3, 8, 1), 390625);
        due("20: n above", x.likely(0, 0, 9, 0), NO);
        due("20: n below", x.likely(0, 0, -1, 0), NO);
        due("20: no LEVEL", x.likely(0, 4, 1, 0), NO);
        due("20: no LEVEL below", x.likely(0, -1, 1, 0), NO);
        due("20: no part", x.likely(0, 0, 1, 2), NO);
        due("20: no part below", x.likely(0, 0, 1, -1), NO);
        due("20: no STREAM", x.likely(4, 0, 1, 0), NO);
        x.set(0, 3, 7);
        due("20: LIMIT 7", x.likely(0, 0, 1, 0), NO);
        due("20: all WEIGHTS 0", dice(0, 0, 0, 0, 0).likely(0, 0, 0, 0), NO);
        due("20: never is 0", dice(1, 0, 0, 0, 0).likely(0, 0, 8, 0), 0);
        due("20: 0 by 1 for never", dice(1, 0, 0, 0, 0).likely(0, 0, 8, 1), 1);
        ShiftCharts sure = dice(0, 0, 0, 0, 5);
        due("20: surely", sure.likely(0, 0, 4, 0), 1);
        due("20: 1 by 1", sure.likely(0, 0, 8, 1), 1);
        due("20: too soon", sure.likely(0, 0, 3, 0), 0);
        ShiftCharts most = dice(5, 5, 5, 5, 5);
        due("20: great WEIGHTS", most.likely(0, 3, 8, 1), 390625);
        ShiftCharts odd = dice(5, 5, 5, 4, 4);
        due("20: 23 to the 8th", odd.likely(0, 3, 8, 1), 78310985281L);
    }

    private static void whatWouldBe() {
        ShiftCharts x = with(0, 3, 2, -1, 4, 5);
        due("21: SLACK 0", x.would(0, 2, 0), 1);
        due("21: SLACK 1", x.would(0, 2, 1), 3);
        due("21: SLACK 5", x.would(0, 2, 5), -5);
        due("21: LIMIT 1", x.would(0, 3, 1), 0);
        due("21: LIMIT 12", x.would(0, 3, 12), -5);
        due("21: nothing changed", x.of(0, 3), 4);
        due("21: BAD SLACK", x.would(0, 2, 6), -2);
        due("21: BAD SLACK below", x.would(0, 2, -1), -2);
        due("21: BAD LIMIT", x.would(0, 3, 13), -2);
        due("21: BAD LIMIT below", x.would(0, 3, 0), -2);
        due("21: no what", x.would(0, 1, 99), -1);
        due("21: no what above", x.would(0, 4, 1), -1);
        due("21: no STREAM", x.would(4, 3, 99), -1);
        x.set(0, 0, 1);
        due("21: START goes with LIMIT", x.would(0, 3, 10), 4);

        ShiftCharts y = with(1, 5, 5);
        due("22: quiet", y.quiet(1), 4);
        y.set(1, 3, 1);
        due("22: quiet by the most SLACK", y.quiet(1), 5);
        y.value(1, 10);
        due("22: none", y.quiet(1), -5);
        due("22: no VALUES", y.quiet(0), 0);
        due("22: NONE", y.quiet(4), -1);
        due("22: NONE below", y.quiet(-1), -1);
    }

    private static void seen() {
        ShiftCharts x = with(0, 1, 5, 2, -4, -9, 3);
        due("24: none SEEN", x.fits(0, 0), 12);
        due("24: none SEEN, the least", x.fits(0, 1), 1);
        due("23: first", x.see(0, 1), 1);
        due("24: SLACK 1, place 1", x.fits(0, 0), 4);
        due("24: the least", x.fits(0, 1), 1);
        due("24: of another all", x.fits(1, 0), 12);
        due("23: of another", x.see(1, 39), 2);
        due("24: of another none", x.fits(1, 0), 0);
        due("24: of another no least", x.fits(1, 1), -5);
        due("23: cleared", x.see(-1, 99), 0);
        due("24: cleared", x.fits(1, 0), 12);
        x.see(0, 2);
        due("24: place 2", x.fits(0, 0), 2);
        due("24: place 2, the least", x.fits(0, 1), 1);
        x.see(0, 4);
        due("24: place 2 and 4", x.fits(0, 0), 2);
        x.see(-1, 0);
        x.see(0, 4);
        x.set(0, 0, 4);
        due("24: ONCE", x.fits(0, 0), 6);
        due("24: ONCE, the least", x.fits(0, 1), 6);
        due("24: no what", x.fits(0, 2), -1);
        due("24: no what below", x.fits(0, -1), -1);
        due("24: no STREAM", x.fits(4, 0), -1);
        due("23: NONE ahead of BAD", x.see(4, 40), -1);
        due("23: NONE below", x.see(-2, 0), -1);
        due("23: BAD", x.see(0, 40), -2);
        due("23: BAD below", x.see(0, -1), -2);
        for (int i = 2; i <= 6; i++) due("23: row " + i, x.see(0, 0), i);
        due("23: FULL", x.see(0, 0), -4);
        due("23: BAD ahead of FULL", x.see(0, 40), -2);
        due("23: cleared when FULL", x.see(-1, LEAST), 0);
    }

    private static void oddsAndMeans() {
        ShiftCharts x = with(0, 5, 2);
        due("25: above", x.odds(0, 0), 1);
        due("25: below", x.odds(0, 1), 2);
        due("25: none above", x.odds(1, 0), 0);
        due("25: none below", x.odds(1, 1), 1);
        x.value(1, -7);
        due("26: of one VALUE", x.mean(1, 0), -7);
        x.drop(1);
        x.value(0, 20);
        due("25: surely", x.odds(0, 0), 1);
        due("25: surely, below", x.odds(0, 1), 1);
        due("25: no part", x.odds(0, 2), NO);
        due("25: no part below", x.odds(0, -1), NO);
        due("25: no STREAM", x.odds(4, 0), NO);
        due("26: above", x.mean(0, 0), 9);
        due("26: below", x.mean(0, 1), 1);
        come(x, 1, -3, -2, -3, -2);
        due("26: below 0", x.mean(1, 0), -5);
        due("26: by 2", x.mean(1, 1), 2);
        come(x, 2, 3, -3);
        due("26: 0", x.mean(2, 0), 0);
        due("26: 0 by 1", x.mean(2, 1), 1);
        due("26: no VALUES", x.mean(3, 0), NO);
        due("26: no part", x.mean(0, 2), NO);
        due("26: no STREAM", x.mean(-1, 0), NO);
        x.set(0, 1, 9);
        due("26: TARGET does not matter", x.mean(0, 0), 9);
    }

    private static void plans() {
        ShiftCharts x = with(0, 5, 0, -5);
        int[] first = {2, 0, 1};
        for (int what = 0; what < 3; what++) due("28: no PLAN " + what, x.ends(what), first[what]);
        due("27: TARGET", x.plan(1, 5), 1);
        int[] second = {2, 1, 1};
        for (int what = 0; what < 3; what++) due("28: TARGET 5 " + what, x.ends(what), second[what]);
        due("27: SLACK", x.plan(2, 5), 2);
        due("28: SLACK 5", x.ends(1), 2);
        due("27: VALUES go", x.plan(3, 2), 3);
        int[] third = {1, 0, -5};
        for (int what = 0; what < 3; what++) due("28: two gone " + what, x.ends(what), third[what]);
        due("27: VALUE", x.plan(0, 20), 4);
        int[] fourth = {2, 0, 1};
        for (int what = 0; what < 3; what++) due("28: one came " + what, x.ends(what), fourth[what]);
        due("27: all go", x.plan(3, 40), 5);
        int[] fifth = {0, -5, -5};
        for (int what = 0; what < 3; what++) due("28: all gone " + what, x.ends(what), fifth[what]);
        due("28: nothing changed", x.count(0), 3);
        due("28: nothing set", x.of(0, 1), 0);
        due("28: NONE", x.ends(3), -1);
        due("28: NONE below", x.ends(-1), -1);
        planEdges(x);
        planWithoutRoom();
        ShiftCharts y = with(0, 5, 5, 5, 5);
        y.set(0, 0, 1);
        y.set(0, 3, 12);
        due("28: by its KIND and LIMIT", y.ends(1), 1);
    }

    private static void planEdges(ShiftCharts x) {
        due("27: NONE ahead of BAD", x.plan(4, 99), -1);
        due("27: NONE below", x.plan(-2, 0), -1);
        int[][] reach = {{-20, 20}, {-20, 20}, {0, 5}, {0, 40}};
        for (int what = 0; what < 4; what++) {
            x.plan(-1, LEAST);
            due("27: BAD below " + what, x.plan(what, reach[what][0] - 1), -2);
            due("27: BAD above " + what, x.plan(what, reach[what][1] + 1), -2);
            due("27: low " + what, x.plan(what, reach[what][0]), 1);
            due("27: high " + what, x.plan(what, reach[what][1]), 2);
        }
        for (int i = 3; i <= 8; i++) due("27: row " + i, x.plan(0, 0), i);
        due("27: FULL", x.plan(0, 0), -4);
        due("27: BAD ahead of FULL", x.plan(0, 21), -2);
        due("27: cleared", x.plan(-1, 99), 0);
    }

    private static void planWithoutRoom() {
        ShiftCharts x = new ShiftCharts();
        for (int i = 0; i < 40; i++) x.value(0, 0);
        x.plan(0, 20);
        due("28: no room", x.ends(0), 0);
        x.plan(3, 1);
        x.plan(0, 20);
        due("28: room for one", x.ends(1), 39);
        x.plan(0, 20);
        due("28: room for one alone", x.ends(0), 1);
    }

    private static void books() {
        ShiftCharts x = with(1, 9, 9);
        due("30: no rows", x.looked(), -5);
        due("29: first", x.book(1, 2), 1);
        due("30: as told", x.looked(), -5);
        due("29: second", x.book(0, 0), 2);
        due("29: third", x.book(1, 40), 3);
        x.drop(1);
        due("30: the first row", x.looked(), 0);
        x.value(1, 9);
        due("30: the third", x.looked(), 2);
        due("29: fourth", x.book(2, 1), 4);
        due("30: the first of them", x.looked(), 2);
        x.value(0, 9);
        due("30: another now", x.looked(), 1);
        due("29: NONE ahead of BAD", x.book(4, 41), -1);
        due("29: NONE below", x.book(-2, 0), -1);
        due("29: BAD", x.book(0, 41), -2);
        due("29: BAD below", x.book(0, -1), -2);
        for (int i = 5; i <= 8; i++) due("29: row " + i, x.book(3, 0), i);
        due("29: FULL", x.book(3, 0), -4);
        due("29: BAD ahead of FULL", x.book(3, 41), -2);
        due("29: cleared", x.book(-1, 99), 0);
        due("30: cleared", x.looked(), -5);
    }

    private static void judging() {
        ShiftCharts x = with(0, 3, 2, -1, 4);
        due("31: holds nothing", x.judge(0, 2, 0), 100);
        due("31: no VALUES, holds nothing", x.judge(1, 2, 0), -5);
        x.tape(2, 3, 6);
        due("31: no VALUES, no place", x.judge(1, 2, -1), -5);
        long[] told = {7, 2, 3, 1, 0, 9};
        for (int i = 0; i < 6; i++) x.item(2, i, told[i]);
        due("31: as told", x.judge(0, 2, 1), -5);
        due("31: the first is otherwise", x.judge(0, 2, 0), 0);
        due("31: ends at once", x.judge(0, 2, 6), 100);
        due("31: beyond", x.judge(0, 2, MOST), 100);
        due("31: below 0", x.judge(0, 2, -1), 100);
        due("31: far below 0", x.judge(0, 2, LEAST), 100);
        x.item(2, 3, 5);
        due("31: the third is otherwise", x.judge(0, 2, 1), 2);
        x.item(2, 3, 1L << 32 | 1);
        due("31: otherwise above 32 bits", x.judge(0, 2, 1), 2);
        x.tape(2, 3, 3);
        x.item(2, 1, 2);
        x.item(2, 2, 3);
        due("31: ends behind two", x.judge(0, 2, 1), 102);
        due("31: no STREAM", x.judge(4, 2, 0), -1);
        due("31: no TAPE", x.judge(0, 6, 0), -1);
        due("31: no TAPE below", x.judge(0, -1, 0), -1);
        for (int sort = 0; sort < 5; sort++) {
            x.tape(3, sort, 3);
            due("31: sort " + sort, x.judge(0, 3, 0), sort == 3 ? 0 : -12);
            due("31: no VALUES, sort " + sort, x.judge(1, 3, 0), sort == 3 ? -5 : -12);
            due("31: NONE ahead of CAST", x.judge(9, 3, 0), -1);
        }
    }

    private static void images() {
        ShiftCharts x = with(0, 1, 2);
        due("33: none", x.undo(), -3);
        x.set(1, 0, 3);
        x.weight(1, 4);
        x.see(0, 1);
        x.plan(0, 1);
        x.book(0, 0);
        x.feed('v');
        x.tape(0, 2, 2);
        due("32: taken", x.image(), 2);
        x.drop(0);
        x.value(0, 9);
        come(x, 3, 1, 1, 1);
        for (int what = 0; what < 4; what++) x.set(1, what, 4);
        x.weight(1, 0);
        x.see(1, 1);
        x.plan(-1, 0);
        x.book(1, 9);
        x.feed('0');
        x.item(0, 1, 7);
        due("33: as it was", x.undo(), 2);
        due("33: VALUE", x.at(0, 1), 2);
        long[] settings = {3, 0, 1, 4};
        for (int what = 0; what < 4; what++) due("33: what " + what, x.of(1, what), settings[what]);
        due("33: DICE", x.weighs(1), 4);
        due("33: SEEN", x.count(1), 1);
        due("33: PLAN", x.count(2), 1);
        due("33: BOOK", x.count(3), 1);
        due("33: LOOKED", x.looked(), -5);
        due("33: THE TEXT stays", x.count(4), 2);
        due("33: the TAPES stay", x.peek(0, 1), 7);
        x.value(0, 5);
        due("33: again", x.undo(), 2);
        x.value(0, 5);
        due("32: anew", x.image(), 3);
        x.drop(0);
        due("33: the new one", x.undo(), 3);
        due("33: its VALUE", x.at(0, 2), 5);
        rowsOfImages();
    }

    private static void rowsOfImages() {
        ShiftCharts x = with(0, 5, 0, -5);
        x.set(0, 3, 3);
        x.see(0, 2);
        x.see(0, 0);
        x.plan(3, 1);
        x.plan(0, 20);
        x.book(0, 2);
        x.book(2, 0);
        x.image();
        x.set(0, 3, 12);
        x.see(-1, 0);
        x.see(3, 9);
        x.see(3, 9);
        x.plan(-1, 0);
        x.plan(2, 5);
        x.plan(2, 5);
        x.book(-1, 0);
        x.book(3, 9);
        x.book(3, 9);
        x.undo();
        due("33: LIMIT", x.of(0, 3), 3);
        due("33: SEEN fits", x.fits(0, 0), 4);
        due("33: SEEN of no other", x.fits(3, 0), 12);
        due("33: ENDS of the PLAN", x.ends(0), 2);
        due("33: ENDS, the first", x.ends(1), 1);
        due("33: the BOOK's rows", x.looked(), -5);
    }

    private static void counts() {
        ShiftCharts x = with(2, 1, 2);
        x.value(3, 1);
        x.see(0, 0);
        for (int i = 0; i < 2; i++) x.plan(0, 0);
        for (int i = 0; i < 5; i++) x.book(0, 0);
        for (int i = 0; i < 7; i++) x.feed('x');
        int[] many = {3, 1, 2, 5, 7};
        for (int what = 0; what < 5; what++) due("34: " + what, x.count(what), many[what]);
        due("34: BAD", x.count(5), -2);
        due("34: BAD below", x.count(-1), -2);
    }

    private static void tapes() {
        ShiftCharts x = new ShiftCharts();
        due("35: made", x.tape(5, 0, 60), 1);
        due("35: NONE ahead of all", x.tape(6, 9, -1), -1);
        due("35: NONE below", x.tape(-1, 0, 0), -1);
        due("35: BAD sort", x.tape(0, 5, 1), -2);
        due("35: BAD sort below", x.tape(0, -2, -1), -2);
        due("35: BAD n", x.tape(0, 0, 61), -2);
        due("35: SIZE", x.tape(0, 0, -1), -14);
        due("35: SIZE far", x.tape(0, 0, LEAST), -14);
        due("35: of none", x.tape(0, 4, 0), 1);
        due("36: of none", x.item(0, 0, 1), -13);
        due("37: of none", x.peek(0, 0), NO);
        due("35: holds nothing", x.tape(0, -1, LEAST), 1);
        due("36: NOTHING", x.item(0, 0, 1), -11);
        due("37: nothing", x.peek(0, 0), NO);

        long[] sent = {0x123456789ABCDEFFL, -1, 128, 0, 32768, 1L << 31, 256};
        long[][] kept = {{-1, -1, -128, 0, 0, 0, 0}, {-8449, -1, 128, 0, -32768, 0, 256},
            {-1698898177, -1, 128, 0, 32768, -2147483648L, 256}, sent, {1, 1, 1, 0, 1, 1, 1}};
        for (int sort = 0; sort < 5; sort++) {
            x.tape(1, sort, 7);
            for (int i = 0; i < 7; i++) {
                due("37: all 0, sort " + sort, x.peek(1, i), 0);
                due("36: sort " + sort, x.item(1, i, sent[i]), 1);
                due("37: sort " + sort + ", item " + i, x.peek(1, i), kept[sort][i]);
            }
        }
        due("36: PLACE", x.item(1, 7, 0), -13);
        due("36: PLACE below", x.item(1, -1, 0), -13);
        due("36: NONE", x.item(6, 0, 0), -1);
        due("36: NONE below", x.item(-1, 0, 0), -1);
        due("37: beyond", x.peek(1, 7), NO);
        due("37: below", x.peek(1, -1), NO);
        due("37: no TAPE", x.peek(6, 0), NO);
        due("37: no TAPE below", x.peek(-1, 0), NO);
        x.tape(1, 3, 60);
        for (int i = 0; i < 60; i++) due("35: all 0 again " + i, x.peek(1, i), 0);
    }

    private static void shifts() {
        ShiftCharts x = new ShiftCharts();
        x.tape(0, 2, 5);
        x.tape(1, 2, 3);
        x.tape(2, 3, 5);
        for (int i = 0; i < 5; i++) x.item(0, i, i + 1);
        due("38: to another", x.shift(0, 2, 1, 0, 3), 3);
        for (int i = 0; i < 3; i++) due("38: item " + i, x.peek(1, i), i + 3);
        due("38: up itself", x.shift(0, 0, 0, 1, 4), 4);
        long[] up = {1, 1, 2, 3, 4};
        for (int i = 0; i < 5; i++) due("38: up " + i, x.peek(0, i), up[i]);
        due("38: down itself", x.shift(0, 1, 0, 0, 4), 4);
        long[] down = {1, 2, 3, 4, 4};
        for (int i = 0; i < 5; i++) due("38: down " + i, x.peek(0, i), down[i]);
        due("38: none at the ends", x.shift(0, 5, 1, 3, 0), 0);
        due("38: none beyond one's end", x.shift(0, 6, 1, 3, 0), -13);
        due("38: none beyond the other's", x.shift(0, 5, 1, 4, 0), -13);
        due("38: NONE", x.shift(6, 0, 0, 0, 0), -1);
        due("38: NONE of the other", x.shift(0, 0, 6, 0, 0), -1);
        due("38: NONE ahead of NOTHING", x.shift(3, 0, -1, 0, 0), -1);
        due("38: NOTHING", x.shift(3, 0, 0, 0, 0), -11);
        due("38: NOTHING of the other", x.shift(0, -1, 3, 0, 0), -11);
        due("38: CAST", x.shift(0, -1, 2, 0, 1), -12);
        due("38: n below 0", x.shift(0, 0, 1, 0, -1), -13);
        due("38: i below 0", x.shift(0, -1, 1, 0, 1), -13);
        due("38: j below 0", x.shift(0, 0, 1, -1, 1), -13);
        due("38: beyond one's end", x.shift(0, 3, 1, 0, 3), -13);
        due("38: beyond the other's", x.shift(0, 0, 1, 1, 3), -13);
        due("38: n far", x.shift(0, 1, 1, 1, MOST), -13);
        due("38: i far", x.shift(0, MOST, 1, 0, 1), -13);
        due("38: j far", x.shift(0, 0, 1, MOST, 1), -13);
        due("38: nothing changed", x.peek(1, 0), 3);
    }

    private static void refusalsChangeNothing() {
        ShiftCharts x = with(0, 1);
        x.image();
        x.value(0, 99);
        x.value(9, 1);
        x.set(0, 3, 0);
        x.weight(0, 9);
        x.see(0, 99);
        x.plan(3, 99);
        x.book(0, 99);
        x.feed(200);
        x.tape(0, 0, 99);
        int[] many = {1, 0, 0, 0, 0};
        for (int what = 0; what < 5; what++) due("refused: " + what, x.count(what), many[what]);
        due("refused: LIMIT", x.of(0, 3), 4);
        due("refused: WEIGHT", x.weighs(0), 1);
        due("refused: TAPE", x.item(0, 0, 0), -11);
    }
}
