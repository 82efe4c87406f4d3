/** The edges that the document names of promises 10 to 20: sums, alarms, joint, change; dice, chains. */
public final class EdgesOfSumsTest {
    private static final long NO = Edges.NO;
    private static final int LEAST = Edges.LEAST, MOST = Edges.MOST;

    public static void main(String[] args) {
        Edges.run(EdgesOfSumsTest.class, 10, 20);
    }

    /** UP and DOWN behind the VALUES' last one. */
    private static void last(ShiftCharts x, int stream, long up, long down) {
        int place = (int) x.of(stream, 4) - 1;
        Edges.due("UP behind place " + place, x.sum(stream, 0, place), up);
        Edges.due("DOWN behind place " + place, x.sum(stream, 1, place), down);
    }

    // ---- promise 10: sum

    private static void p10_noSuchStream() {
        for (int s : Edges.NO_STREAMS) Edges.everywhere("sum(" + s + ", 0, 0)", -1, x -> x.sum(s, 0, 0));
    }

    private static void p10_noSuchSide() {
        for (int side : new int[] {-1, 2, LEAST, MOST}) {
            Edges.everywhere("sum(0, " + side + ", 0)", -1, x -> x.sum(0, side, 0));
        }
    }

    private static void p10_noSuchPlace() {
        for (int s = 0; s < 4; s++) {
            int stream = s;
            for (int place : new int[] {-1, 40, LEAST, MOST}) {
                Edges.everywhere("sum(" + s + ", 0, " + place + ")", -1, x -> x.sum(stream, 0, place));
                Edges.everywhere("sum(" + s + ", 1, " + place + ")", -1, x -> x.sum(stream, 1, place));
            }
            Edges.keeps(Edges.FRESH, "sum(" + s + ", 0, 0)", -1, x -> x.sum(stream, 0, 0));
        }
    }

    private static void p10_firstAndLastPlace() {
        ShiftCharts x = new ShiftCharts();
        x.set(3, 2, 0);
        x.set(3, 3, 12);
        for (int i = 0; i < 40; i++) {
            Edges.due("ahead of place " + i, x.sum(3, 0, i), -1);
            x.value(3, i == 0 ? 5 : 0);
            last(x, 3, 5, 0);
        }
        Edges.due("place 0", x.sum(3, 0, 0), 5);
        Edges.due("place 40", x.sum(3, 0, 40), -1);
        x.drop(3);
        Edges.due("the place that went", x.sum(3, 0, 39), -1);
    }

    private static void p10_zeroIfBelow() {
        int[] values = {0, 1, 2, 3, -1, -2, -3};
        long[] ups = {0, 0, 1, 2, 0, 0, 0};
        long[] downs = {0, 0, 0, 0, 0, 1, 2};
        for (int i = 0; i < 7; i++) last(Edges.with(0, values[i]), 0, ups[i], downs[i]);
    }

    private static void p10_zeroOnTheWay() {
        // UP 3, then less 2 is 1, less 1 is 0, less 2 is below 0; DOWN goes by SLACK 1 likewise.
        ShiftCharts x = Edges.with(0, 4, -1);
        last(x, 0, 1, 0);
        x.value(0, 0);
        last(x, 0, 0, 0);
        x.value(0, -1);
        last(x, 0, 0, 0);
        x.value(0, 2);
        last(x, 0, 1, 0);
        ShiftCharts y = Edges.with(0, -4, 1);
        last(y, 0, 0, 1);
        y.value(0, 3);
        last(y, 0, 2, 0);
    }

    private static void p10_upAtTheLimit() {
        last(Edges.with(0, 4), 0, 3, 0);
        last(Edges.with(0, 5), 0, 0, 0);
        last(Edges.with(0, 4, 1), 0, 3, 0);
        last(Edges.with(0, 4, 2), 0, 0, 0);
    }

    private static void p10_downAtTheLimit() {
        last(Edges.with(0, -4), 0, 0, 3);
        last(Edges.with(0, -5), 0, 0, 0);
        last(Edges.with(0, -4, -1), 0, 0, 3);
        last(Edges.with(0, -4, -2), 0, 0, 0);
    }

    private static void p10_leastAndGreatestLimit() {
        ShiftCharts x = Edges.with(1, 1);
        x.set(1, 3, 1);
        last(x, 1, 0, 0);
        Edges.due("no ALARM by UP 0", x.alarms(1), 0);
        x.value(1, 2);
        Edges.due("ALARM by UP 1", x.alarms(1), 1);
        ShiftCharts y = Edges.with(1, 12);
        y.set(1, 3, 12);
        last(y, 1, 11, 0);
        y.value(1, 2);
        last(y, 1, 0, 0);
    }

    private static void p10_leastAndGreatestSlack() {
        ShiftCharts x = Edges.with(2, 5, 5);
        x.set(2, 3, 12);
        x.set(2, 2, 0);
        last(x, 2, 10, 0);
        x.set(2, 2, 5);
        last(x, 2, 0, 0);
        x.value(2, 6);
        last(x, 2, 1, 0);
    }

    private static void p10_startAtFirst() {
        long[] starts = {0, 2, 0, 2, 0};
        for (int kind = 0; kind < 5; kind++) {
            ShiftCharts x = Edges.with(0, 0);
            Edges.set(x, 0, kind, 0, 0, 5);
            last(x, 0, starts[kind], starts[kind]);
            x.set(0, 2, 1);
            last(x, 0, Math.max(0, starts[kind] - 1), Math.max(0, starts[kind] - 1));
        }
    }

    private static void p10_bothAreStartAgain() {
        // By START 2 and LIMIT 4 the other SUM goes to 0 with the ALARM; behind it both are 2.
        for (int kind = 1; kind <= 3; kind += 2) {
            ShiftCharts up = Edges.with(0, 2);
            Edges.set(up, 0, kind, 0, 0, 4);
            Edges.due("UP's ALARM", up.alarms(0), 1);
            last(up, 0, 2, 2);
            ShiftCharts down = Edges.with(0, -2);
            Edges.set(down, 0, kind, 0, 0, 4);
            Edges.due("DOWN's ALARM", down.alarms(0), 1);
            last(down, 0, 2, 2);
            down.value(0, 1);
            last(down, 0, 3, 1);
        }
    }

    private static void p10_cappedAtFive() {
        for (int v = 4; v <= 7; v++) {
            ShiftCharts x = Edges.with(0, v);
            Edges.set(x, 0, 2, 0, 0, 12);
            last(x, 0, Math.min(v, 5), 0);
            ShiftCharts y = Edges.with(0, -v);
            Edges.set(y, 0, 2, 0, 0, 12);
            last(y, 0, 0, Math.min(v, 5));
        }
    }

    private static void p10_onceIsZeroForGood() {
        ShiftCharts x = Edges.with(0, 4, 2);
        x.set(0, 0, 4);
        Edges.due("ahead of its first ALARM", x.sum(0, 0, 0), 3);
        last(x, 0, 0, 0);
        for (int i = 2; i < 40; i++) {
            x.value(0, i % 2 == 0 ? 3 : -3);
            last(x, 0, 0, 0);
        }
        Edges.due("the one ALARM", x.alarms(0), 1);
    }

    private static void p10_onceAheadOfItsAlarm() {
        ShiftCharts x = Edges.with(0, 4, 1, 1);
        x.set(0, 0, 4);
        last(x, 0, 3, 0);
        Edges.due("none yet", x.alarms(0), 0);
    }

    private static void p10_asksOnly() {
        Edges.asks("sum(0, 0, 0)", x -> x.sum(0, 0, 0));
        Edges.asks("sum(1, 1, 3)", x -> x.sum(1, 1, 3));
    }

    // ---- promise 11: alarms

    private static void p11_noSuchStream() {
        for (int s : Edges.NO_STREAMS) Edges.everywhere("alarms(" + s + ")", -1, x -> x.alarms(s));
    }

    private static void p11_noneWithoutValues() {
        for (int s = 0; s < 4; s++) Edges.due("alarms(" + s + ")", new ShiftCharts().alarms(s), 0);
    }

    private static void p11_atTheLimit() {
        Edges.due("UP 3", Edges.with(3, 4).alarms(3), 0);
        Edges.due("UP 4", Edges.with(3, 5).alarms(3), 1);
        Edges.due("DOWN 3", Edges.with(3, -4).alarms(3), 0);
        Edges.due("DOWN 4", Edges.with(3, -5).alarms(3), 1);
    }

    private static void p11_atTheLimitAgain() {
        ShiftCharts x = Edges.with(0, 5, 4);
        Edges.due("UP 3 behind it", x.alarms(0), 1);
        x.value(0, 2);
        Edges.due("UP 4 behind it", x.alarms(0), 2);
    }

    private static void p11_fortyAtMost() {
        ShiftCharts x = Edges.many(0, 40, 20);
        Edges.due("all", x.alarms(0), 40);
        x.set(0, 0, 4);
        Edges.due("ONCE", x.alarms(0), 1);
        Edges.due("DOWN", Edges.many(1, 40, -20).alarms(1), 40);
    }

    private static void p11_byTheSettingsAsTheyAre() {
        ShiftCharts x = Edges.with(0, 5);
        x.set(0, 3, 5);
        Edges.due("LIMIT 5", x.alarms(0), 0);
        x.set(0, 2, 0);
        Edges.due("SLACK 0", x.alarms(0), 1);
        x.set(0, 1, 1);
        Edges.due("TARGET 1", x.alarms(0), 0);
        x.set(0, 0, 1);
        Edges.due("START 2", x.alarms(0), 1);
    }

    private static void p11_asksOnly() {
        for (int s = 0; s < 4; s++) {
            int stream = s;
            Edges.asks("alarms(" + s + ")", x -> x.alarms(stream));
        }
    }

    // ---- promise 12: alarm

    private static void p12_noSuchStream() {
        for (int s : Edges.NO_STREAMS) Edges.everywhere("alarm(" + s + ", 0, 0)", -1, x -> x.alarm(s, 0, 0));
    }

    private static void p12_noSuchAlarm() {
        for (int k : new int[] {-1, 40, LEAST, MOST}) {
            for (int w = 0; w < 3; w++) {
                int what = w;
                Edges.everywhere("alarm(0, " + k + ", " + w + ")", -1, x -> x.alarm(0, k, what));
            }
        }
        Edges.keeps(Edges.FRESH, "alarm(0, 0, 0)", -1, x -> x.alarm(0, 0, 0));
    }

    private static void p12_noSuchWhat() {
        for (int what : new int[] {-1, 3, LEAST, MOST}) {
            Edges.everywhere("alarm(0, 0, " + what + ")", -1, x -> x.alarm(0, 0, what));
            Edges.keeps(() -> Edges.with(1, 9), "alarm(1, 0, " + what + ")", -1, x -> x.alarm(1, 0, what));
        }
    }

    private static void p12_firstAndLastAlarm() {
        ShiftCharts x = new ShiftCharts();
        for (int i = 0; i < 40; i++) {
            int side = i % 2;
            Edges.due("not yet", x.alarm(2, i, 0), -1);
            x.value(2, side == 0 ? 20 : -19);
            Edges.due("place", x.alarm(2, i, 0), i);
            Edges.due("SIDE", x.alarm(2, i, 1), side);
            Edges.due("SIZE", x.alarm(2, i, 2), 19 - side);
        }
        Edges.due("place of the first", x.alarm(2, 0, 0), 0);
        Edges.due("none behind the fortieth", x.alarm(2, 40, 0), -1);
    }

    private static void p12_sizeAtTheLimit() {
        Edges.due("UP", Edges.with(0, 5).alarm(0, 0, 2), 4);
        Edges.due("DOWN", Edges.with(0, -5).alarm(0, 0, 2), 4);
        Edges.due("UP's SIDE", Edges.with(0, 5).alarm(0, 0, 1), 0);
        Edges.due("DOWN's SIDE", Edges.with(0, -5).alarm(0, 0, 1), 1);
    }

    private static void p12_greatestSize() {
        ShiftCharts x = Edges.with(0, -9, 20);
        Edges.set(x, 0, 0, -20, 0, 12);
        Edges.due("UP 11, and 40", x.alarm(0, 0, 2), 51);
        ShiftCharts y = Edges.with(0, 9, -20);
        Edges.set(y, 0, 0, 20, 0, 12);
        Edges.due("DOWN 11, and 40", y.alarm(0, 0, 2), 51);
        Edges.due("its SIDE", y.alarm(0, 0, 1), 1);
    }

    private static void p12_onceHasNoSecond() {
        ShiftCharts x = Edges.with(0, 9, 9);
        x.set(0, 0, 4);
        Edges.due("the first", x.alarm(0, 0, 0), 0);
        Edges.due("no second", x.alarm(0, 1, 0), -1);
    }

    private static void p12_asksOnly() {
        for (int w = 0; w < 3; w++) {
            int what = w;
            Edges.asks("alarm(0, 0, " + w + ")", x -> x.alarm(0, 0, what));
        }
    }

    // ---- promise 13: latest

    private static void p13_noSuchStream() {
        for (int s : Edges.NO_STREAMS) Edges.everywhere("latest(" + s + ", 0)", -1, x -> x.latest(s, 0));
    }

    private static void p13_placeBelow0() {
        for (int place : new int[] {-1, -5, LEAST}) {
            for (int s = 0; s < 4; s++) {
                int stream = s;
                Edges.everywhere("latest(" + s + ", " + place + ")", -1, x -> x.latest(stream, place));
            }
        }
    }

    private static void p13_atAPlaceOrAhead() {
        ShiftCharts x = Edges.with(1, 0, 5, 0, -5);
        long[] latest = {-5, 1, 1, 3};
        for (int i = 0; i < 4; i++) Edges.due("latest(1, " + i + ")", x.latest(1, i), latest[i]);
    }

    private static void p13_beyondTheLast() {
        ShiftCharts x = Edges.with(1, 5, 0, 0);
        for (int place : new int[] {2, 3, 39, 40, 41, MOST}) Edges.due("latest(1, " + place + ")", x.latest(1, place), 0);
        x.value(1, 5);
        for (int place : new int[] {3, 4, 39, 40, MOST}) Edges.due("latest(1, " + place + ")", x.latest(1, place), 3);
        ShiftCharts full = Edges.many(0, 40, 20);
        Edges.due("place 39", full.latest(0, 39), 39);
        Edges.due("place 40", full.latest(0, 40), 39);
        Edges.due("place 38", full.latest(0, 38), 38);
    }

    private static void p13_none() {
        for (int s = 0; s < 4; s++) {
            for (int place : new int[] {0, 39, 40, MOST}) {
                Edges.due("without VALUES", new ShiftCharts().latest(s, place), -5);
                Edges.due("without ALARM", Edges.with(s, 4, -4).latest(s, place), -5);
            }
        }
    }

    private static void p13_asksOnly() {
        Edges.asks("latest(0, 0)", x -> x.latest(0, 0));
        Edges.asks("latest(3, 40)", x -> x.latest(3, 40));
    }

    // ---- promise 14: joint

    private static void joint(ShiftCharts x, long... due) {
        for (int what = 0; what < 5; what++) Edges.due("joint(" + what + ")", x.joint(what), due[what]);
    }

    private static void p14_noSuchWhat() {
        for (int what : new int[] {-1, 5, LEAST, MOST}) Edges.everywhere("joint(" + what + ")", -1, x -> x.joint(what));
    }

    private static void p14_noValues() {
        joint(new ShiftCharts(), 0, 0, -5, -5, -5);
    }

    private static void p14_oneStream() {
        for (int s = 0; s < 4; s++) {
            joint(Edges.with(s, 4), 1, 0, -5, -5, -5);
            joint(Edges.with(s, 5), 1, 1, 0, 0, 4);
            joint(Edges.with(s, -4), 1, 0, -5, -5, -5);
            joint(Edges.with(s, -5), 1, 1, 0, 1, 4);
        }
    }

    private static void p14_allStreamsAtTheLimit() {
        // SLACK 4, LIMIT 16.
        ShiftCharts x = new ShiftCharts();
        for (int s = 0; s < 4; s++) x.value(s, s == 3 ? 4 : 5);
        joint(x, 1, 0, -5, -5, -5);
        x.drop(3);
        x.value(3, 5);
        joint(x, 1, 1, 0, 0, 16);
        ShiftCharts y = new ShiftCharts();
        for (int s = 0; s < 4; s++) y.value(s, -5);
        joint(y, 1, 1, 0, 1, 16);
    }

    private static void p14_streamsWithoutValuesDontMatter() {
        ShiftCharts x = Edges.with(2, 5);
        for (int s = 0; s < 4; s++) if (s != 2) Edges.set(x, s, 3, -20, 5, 12);
        joint(x, 1, 1, 0, 0, 4);
        // One VALUE of TARGET 0: SLACK 1 and 5, LIMIT 4 and 12.
        x.set(0, 1, 0);
        x.value(0, 0);
        joint(x, 1, 0, -5, -5, -5);
        x.drop(0);
        joint(x, 1, 1, 0, 0, 4);
    }

    private static void p14_asManyPlacesAsTheFewest() {
        ShiftCharts x = Edges.with(0, 0, 0, 20);
        Edges.come(x, 1, 0, 0);
        joint(x, 2, 0, -5, -5, -5);
        x.value(1, 0);
        joint(x, 3, 1, 2, 0, 18);
        x.drop(1);
        x.drop(1);
        joint(x, 1, 0, -5, -5, -5);
        x.drop(1);
        joint(x, 3, 1, 2, 0, 19);
    }

    private static void p14_theFewestInAnyStream() {
        for (int few = 0; few < 4; few++) {
            ShiftCharts x = new ShiftCharts();
            for (int s = 0; s < 4; s++) {
                for (int i = 0; i < (s == few ? 2 : 5); i++) x.value(s, 0);
            }
            joint(x, 2, 0, -5, -5, -5);
        }
    }

    private static void p14_fortyPlacesOfFour() {
        ShiftCharts x = new ShiftCharts();
        for (int s = 0; s < 4; s++) {
            Edges.set(x, s, 0, -20, 0, 12);
            for (int i = 0; i < 40; i++) x.value(s, 20);
        }
        joint(x, 40, 40, 0, 0, 160);
        // OFF is -160 by TARGET 20 and VALUES -20, LIMIT 48.
        ShiftCharts y = new ShiftCharts();
        for (int s = 0; s < 4; s++) {
            Edges.set(y, s, 0, 20, 0, 12);
            y.value(s, -20);
        }
        joint(y, 1, 1, 0, 1, 160);
    }

    private static void p14_greatestLimit() {
        // LIMIT 48, SLACK 20; OFF 67 is one too few.
        for (int more = 0; more < 2; more++) {
            ShiftCharts x = new ShiftCharts();
            for (int s = 0; s < 4; s++) {
                Edges.set(x, s, 0, 0, 5, 12);
                x.value(s, s == 0 ? 16 + more : 17);
            }
            if (more == 0) joint(x, 1, 0, -5, -5, -5);
            else joint(x, 1, 1, 0, 0, 48);
        }
    }

    private static void p14_startIs0() {
        for (int kind = 1; kind <= 3; kind += 2) {
            ShiftCharts x = Edges.with(0, 5, 5, 1);
            Edges.set(x, 0, kind, 0, 0, 12);
            joint(x, 3, 0, -5, -5, -5);
            x.value(0, 1);
            joint(x, 4, 1, 3, 0, 12);
            x.value(0, 5);
            Edges.due("START 0 behind it too", x.joint(1), 1);
        }
    }

    private static void p14_onceGoesOn() {
        ShiftCharts x = Edges.with(0, 9, 9);
        x.set(0, 0, 4);
        Edges.due("ONCE", x.alarms(0), 1);
        joint(x, 2, 2, 0, 0, 8);
    }

    private static void p14_eachOffByItsKind() {
        // STREAM 0 is held at 5: 5 and 5, less 2, by LIMIT 8.
        ShiftCharts x = Edges.with(0, 20);
        x.value(1, 5);
        x.set(0, 0, 2);
        joint(x, 1, 1, 0, 0, 8);
        x.drop(1);
        x.value(1, 4);
        joint(x, 1, 0, -5, -5, -5);
        // Not held together: 5 and 20.
        x.drop(1);
        x.value(1, 20);
        joint(x, 1, 1, 0, 0, 23);
    }

    private static void p14_asksOnly() {
        for (int w = 0; w < 5; w++) {
            int what = w;
            Edges.asks("joint(" + w + ")", x -> x.joint(what));
        }
    }

    // ---- promise 15: change

    private static void p15_noSuchStream() {
        for (int s : Edges.NO_STREAMS) Edges.everywhere("change(" + s + ")", -1, x -> x.change(s));
    }

    private static void p15_fewerThanTwo() {
        for (int s = 0; s < 4; s++) {
            ShiftCharts x = new ShiftCharts();
            Edges.due("no VALUES", x.change(s), -5);
            x.value(s, 20);
            Edges.due("one", x.change(s), -5);
            x.value(s, -20);
            Edges.due("two", x.change(s), 1);
            x.drop(s);
            Edges.due("one again", x.change(s), -5);
        }
    }

    private static void p15_ofSeveralTheLeast() {
        Edges.due("all alike", Edges.with(0, 3, 3, 3, 3).change(0), 1);
        Edges.due("1/2 and 1/2", Edges.with(0, 0, 1, 0).change(0), 1);
        Edges.due("4/3, 0, 4/3", Edges.with(0, 1, 0, 0, 1).change(0), 1);
        Edges.due("0, 25/6, 25/6, 0", Edges.with(0, 0, 1, 0, -1, 0).change(0), 2);
        Edges.due("forty alike", Edges.many(0, 40, -7).change(0), 1);
    }

    private static void p15_theGreatestBehindALesserOne() {
        // GAINs 125, 2, 121, 480 1/2, 1656 1/5.
        Edges.due("the last", Edges.with(0, 9, 0, 0, 0, 0, 20).change(0), 5);
        // The other way round: 1656 1/5 is the first.
        Edges.due("the first", Edges.with(0, 20, 0, 0, 0, 0, 9).change(0), 1);
    }

    private static void p15_firstAndLastPlace() {
        Edges.due("t 1", Edges.with(0, 5, 0, 0).change(0), 1);
        Edges.due("t 2 of 3", Edges.with(0, 0, 0, 5).change(0), 2);
        ShiftCharts x = Edges.many(0, 39, 0);
        x.value(0, 20);
        Edges.due("t 39 of 40", x.change(0), 39);
        ShiftCharts y = Edges.with(0, -20);
        for (int i = 0; i < 39; i++) y.value(0, 0);
        Edges.due("t 1 of 40", y.change(0), 1);
    }

    private static void p15_greatestGains() {
        ShiftCharts x = new ShiftCharts();
        for (int i = 0; i < 40; i++) x.value(0, i < 20 ? 20 : -20);
        Edges.due("t 20", x.change(0), 20);
        ShiftCharts y = new ShiftCharts();
        for (int i = 0; i < 40; i++) y.value(0, i < 21 ? -20 : 20);
        Edges.due("t 21", y.change(0), 21);
    }

    private static void p15_asksOnly() {
        for (int s = 0; s < 4; s++) {
            int stream = s;
            Edges.asks("change(" + s + ")", x -> x.change(stream));
        }
    }

    // ---- promise 16: gain

    private static void fraction(String what, long above, long below, long dueAbove, long dueBelow) {
        Edges.due(what + ", above", above, dueAbove);
        Edges.due(what + ", below", below, dueBelow);
    }

    private static void gain(ShiftCharts x, int stream, int t, long above, long below) {
        fraction("gain of " + t, x.gain(stream, t, 0), x.gain(stream, t, 1), above, below);
    }

    private static void p16_noSuchStream() {
        for (int s : Edges.NO_STREAMS) Edges.everywhere("gain(" + s + ", 1, 0)", NO, x -> x.gain(s, 1, 0));
    }

    private static void p16_noSuchT() {
        for (int s = 0; s < 4; s++) {
            int stream = s;
            for (int t : new int[] {0, -1, 40, 41, LEAST, MOST}) {
                Edges.everywhere("gain(" + s + ", " + t + ", 0)", NO, x -> x.gain(stream, t, 0));
                Edges.everywhere("gain(" + s + ", " + t + ", 1)", NO, x -> x.gain(stream, t, 1));
            }
        }
    }

    private static void p16_noSuchPart() {
        for (int part : Edges.NO_PARTS) Edges.everywhere("gain(0, 1, " + part + ")", NO, x -> x.gain(0, 1, part));
    }

    private static void p16_oneUpToValuesLess1() {
        ShiftCharts x = new ShiftCharts();
        Edges.due("t 1 of none", x.gain(2, 1, 1), NO);
        x.value(2, 1);
        Edges.due("t 1 of one", x.gain(2, 1, 1), NO);
        x.value(2, 2);
        gain(x, 2, 1, 1, 1);
        Edges.due("t 2 of two", x.gain(2, 2, 1), NO);
        for (int n = 3; n <= 40; n++) {
            x.value(2, 2);
            Edges.due("t 0", x.gain(2, 0, 0), NO);
            Edges.due("the last t is there", x.gain(2, n - 1, 1) > 0 ? 1 : 0, 1);
            Edges.due("t of all", x.gain(2, n, 1), NO);
        }
        // 40 and 79 VALUES together: 40 times 77, less 39 times 79, is -1; by 39 times 1.
        gain(x, 2, 39, 1, 39);
    }

    private static void p16_lowestTerms() {
        ShiftCharts x = Edges.with(0, 1, 1, 1, 5, 5);
        gain(x, 0, 1, 16, 1);
        gain(x, 0, 2, 128, 3);
        gain(x, 0, 3, 96, 1);
        gain(x, 0, 4, 36, 1);
    }

    private static void p16_zeroIs0By1() {
        gain(Edges.with(0, 3, 3), 0, 1, 0, 1);
        gain(Edges.with(0, -3, -3, -3), 0, 2, 0, 1);
        gain(Edges.many(0, 40, 20), 0, 20, 0, 1);
    }

    private static void p16_theGreatest() {
        ShiftCharts x = new ShiftCharts();
        for (int i = 0; i < 40; i++) x.value(0, i < 20 ? 20 : -20);
        gain(x, 0, 20, 640000, 1);
        // 40 times 400, less 1 times 0, is 800 at t 1: 640000 by 39.
        gain(x, 0, 1, 640000, 39);
        gain(x, 0, 39, 640000, 39);
    }

    private static void p16_asksOnly() {
        Edges.asks("gain(0, 1, 0)", x -> x.gain(0, 1, 0));
        Edges.asks("gain(1, 2, 1)", x -> x.gain(1, 2, 1));
    }

    // ---- promise 17: weight; promise 18: weighs

    private static void p17_noSuchStep() {
        for (int step : new int[] {-3, 3, LEAST, MOST}) {
            for (int w : new int[] {0, 5}) Edges.everywhere("weight(" + step + ", " + w + ")", -1, x -> x.weight(step, w));
        }
    }

    private static void p17_weightsOutside() {
        for (int s = -2; s <= 2; s++) {
            int step = s;
            for (int w : new int[] {-1, 6, LEAST, MOST}) {
                Edges.everywhere("weight(" + s + ", " + w + ")", -2, x -> x.weight(step, w));
            }
        }
    }

    private static void p17_weightsInside() {
        for (int step = -2; step <= 2; step++) {
            ShiftCharts x = new ShiftCharts();
            long was = 1;
            for (int w = 0; w <= 5; w++) {
                Edges.due("weight(" + step + ", " + w + ")", x.weight(step, w), was);
                Edges.due("weighs(" + step + ")", x.weighs(step), w);
                was = w;
            }
            for (int other = -2; other <= 2; other++) {
                Edges.due("weighs(" + other + ")", x.weighs(other), other == step ? 5 : 1);
            }
        }
    }

    private static void p17_noneAheadOfBad() {
        Edges.everywhere("weight(3, 6)", -1, x -> x.weight(3, 6));
        Edges.everywhere("weight(-3, -1)", -1, x -> x.weight(-3, -1));
    }

    private static void p18_noSuchStep() {
        for (int step : new int[] {-3, 3, LEAST, MOST}) Edges.everywhere("weighs(" + step + ")", -1, x -> x.weighs(step));
    }

    private static void p18_firstAndLastStep() {
        ShiftCharts x = Edges.dice(5, 0, 1, 3, 4);
        long[] weights = {5, 0, 1, 3, 4};
        for (int step = -2; step <= 2; step++) Edges.due("weighs(" + step + ")", x.weighs(step), weights[step + 2]);
    }

    private static void p18_asksOnly() {
        for (int s = -2; s <= 2; s++) {
            int step = s;
            Edges.asks("weighs(" + s + ")", x -> x.weighs(step));
        }
    }

    // ---- promise 19: run

    private static void runs(ShiftCharts x, int level, long above, long below) {
        fraction("run from " + level, x.run(0, level, 0), x.run(0, level, 1), above, below);
    }

    private static ShiftCharts chain(int slack, int limit, int... weights) {
        ShiftCharts x = Edges.dice(weights);
        x.set(0, 2, slack);
        x.set(0, 3, limit);
        return x;
    }

    private static void p19_noSuchStream() {
        for (int s : Edges.NO_STREAMS) Edges.everywhere("run(" + s + ", 0, 0)", NO, x -> x.run(s, 0, 0));
    }

    private static void p19_noSuchLevel() {
        for (int level : new int[] {-1, 6, 7, LEAST, MOST}) {
            Edges.everywhere("run(0, " + level + ", 0)", NO, x -> x.run(0, level, 0));
            Edges.everywhere("run(0, " + level + ", 1)", NO, x -> x.run(0, level, 1));
        }
    }

    private static void p19_noSuchPart() {
        for (int part : Edges.NO_PARTS) Edges.everywhere("run(0, 0, " + part + ")", NO, x -> x.run(0, 0, part));
    }

    private static void p19_levelsUpToLimitLess1() {
        for (int limit = 1; limit <= 6; limit++) {
            ShiftCharts x = chain(1, limit, 0, 0, 0, 0, 1);
            Edges.due("LEVEL -1 by LIMIT " + limit, x.run(0, -1, 0), NO);
            for (int level = 0; level < limit; level++) runs(x, level, limit - level, 1);
            Edges.due("LEVEL LIMIT by " + limit, x.run(0, limit, 0), NO);
        }
    }

    private static void p19_limitAbove6() {
        ShiftCharts x = chain(1, 6, 1, 1, 1, 1, 1);
        runs(x, 0, 5005, 1);
        runs(x, 5, 3630, 1);
        for (int limit = 7; limit <= 12; limit++) {
            x.set(0, 3, limit);
            for (int level = 0; level < limit; level++) {
                Edges.due("LIMIT " + limit + ", LEVEL " + level, x.run(0, level, 0), NO);
                Edges.due("LIMIT " + limit + ", below the line", x.run(0, level, 1), NO);
            }
        }
    }

    private static void p19_limit1() {
        runs(chain(1, 1, 1, 1, 1, 1, 1), 0, 5, 1);
        runs(chain(0, 1, 1, 1, 1, 1, 1), 0, 5, 2);
    }

    private static void p19_allWeights0() {
        for (int step = -2; step <= 2; step++) {
            ShiftCharts x = chain(0, 1, 0, 0, 0, 0, 0);
            Edges.due("all 0", x.run(0, 0, 0), NO);
            x.weight(step, 1);
            Edges.due("but that of " + step, x.run(0, 0, 0), step > 0 ? 1 : NO);
        }
    }

    private static void p19_noneLeadToAnAlarm() {
        // A STEP leads up only if it is above SLACK.
        for (int slack = 0; slack <= 5; slack++) {
            for (int step = -2; step <= 2; step++) {
                ShiftCharts x = chain(slack, 4, 0, 0, 0, 0, 0);
                x.weight(step, 5);
                for (int level = 0; level < 4; level++) {
                    int up = step - slack;
                    long due = up == 1 ? 4 - level : up == 2 ? (5 - level) / 2 : NO;
                    Edges.due("STEP " + step + ", SLACK " + slack + ", LEVEL " + level, x.run(0, level, 0), due);
                }
            }
        }
    }

    private static void p19_stepsWithWeight0LeadNowhere() {
        ShiftCharts x = chain(1, 4, 1, 1, 1, 1, 0);
        for (int level = 0; level < 4; level++) Edges.due("without STEP 2", x.run(0, level, 0), NO);
        x.weight(2, 1);
        runs(x, 3, 275, 1);
        // Up by 1 or down by 3 to 0 at once, alike likely.
        runs(chain(1, 4, 1, 0, 0, 0, 1), 0, 30, 1);
        runs(chain(1, 4, 1, 0, 0, 0, 1), 3, 16, 1);
    }

    private static void p19_asTheDiceAreNow() {
        ShiftCharts x = chain(1, 4, 1, 1, 1, 1, 1);
        runs(x, 0, 375, 1);
        x.weight(2, 0);
        for (int level = 0; level < 4; level++) Edges.due("without STEP 2 now", x.run(0, level, 0), NO);
        x.weight(2, 1);
        runs(x, 0, 375, 1);
        x.set(0, 2, 2);
        Edges.due("by SLACK 2 now", x.run(0, 3, 0), NO);
    }

    private static void p19_belowLevel0Is0() {
        // From LEVEL 0 down is LEVEL 0; from 1 down by 2 is LEVEL 0 as well.
        ShiftCharts x = chain(1, 3, 1, 1, 0, 0, 5);
        runs(x, 0, 763, 125);
        runs(x, 1, 588, 125);
        runs(x, 2, 343, 125);
    }

    private static void p19_theLimitOrMoreIsAnAlarm() {
        ShiftCharts x = chain(0, 4, 0, 0, 0, 0, 1);
        runs(x, 2, 1, 1);
        runs(x, 3, 1, 1);
        runs(x, 1, 2, 1);
        runs(x, 0, 2, 1);
    }

    private static void p19_lowestTerms() {
        ShiftCharts x = chain(0, 4, 0, 0, 3, 2, 0);
        runs(x, 0, 10, 1);
        runs(x, 1, 15, 2);
        runs(x, 2, 5, 1);
        runs(x, 3, 5, 2);
        runs(chain(0, 4, 0, 0, 0, 5, 0), 3, 1, 1);
    }

    private static void p19_greatNumbers() {
        ShiftCharts x = chain(1, 6, 5, 5, 4, 5, 5);
        runs(x, 0, 60515016, 15625);
        runs(x, 5, 43105296, 15625);
        runs(chain(1, 6, 5, 5, 5, 5, 1), 0, 21622881, 1);
        runs(chain(1, 6, 5, 5, 5, 5, 1), 5, 20242026, 1);
    }

    private static void p19_asksOnly() {
        Edges.asks("run(0, 0, 0)", x -> x.run(0, 0, 0));
        Edges.asks("run(2, 3, 1)", x -> x.run(2, 3, 1));
    }

    // ---- promise 20: likely

    private static void likely(ShiftCharts x, int level, int n, long above, long below) {
        fraction("from " + level + " in " + n, x.likely(0, level, n, 0), x.likely(0, level, n, 1), above, below);
    }

    private static void p20_noSuchStream() {
        for (int s : Edges.NO_STREAMS) Edges.everywhere("likely(" + s + ", 0, 1, 0)", NO, x -> x.likely(s, 0, 1, 0));
    }

    private static void p20_noSuchLevel() {
        for (int level : new int[] {-1, 6, 7, LEAST, MOST}) {
            Edges.everywhere("likely(0, " + level + ", 1, 0)", NO, x -> x.likely(0, level, 1, 0));
        }
    }

    private static void p20_levelsUpToLimitLess1() {
        for (int limit = 1; limit <= 6; limit++) {
            ShiftCharts x = chain(1, limit, 0, 0, 0, 0, 1);
            Edges.due("LEVEL -1", x.likely(0, -1, 1, 0), NO);
            Edges.due("LEVEL LIMIT", x.likely(0, limit, 1, 0), NO);
            for (int level = 0; level < limit; level++) {
                likely(x, level, limit - level - 1, 0, 1);
                likely(x, level, limit - level, 1, 1);
            }
        }
    }

    private static void p20_noSuchN() {
        for (int n : new int[] {-1, 9, LEAST, MOST}) {
            Edges.everywhere("likely(0, 0, " + n + ", 0)", NO, x -> x.likely(0, 0, n, 0));
            Edges.everywhere("likely(0, 0, " + n + ", 1)", NO, x -> x.likely(0, 0, n, 1));
        }
    }

    private static void p20_fromNoSteps() {
        for (int level = 0; level < 4; level++) likely(new ShiftCharts(), level, 0, 0, 1);
        likely(chain(0, 1, 0, 0, 0, 5, 5), 0, 0, 0, 1);
    }

    private static void p20_upTo8Steps() {
        // One of five goes up: less than surely by 4 to the 8th of 5 to the 8th.
        likely(chain(1, 1, 1, 1, 1, 1, 1), 0, 8, 325089, 390625);
        likely(chain(1, 6, 1, 1, 1, 1, 1), 5, 8, 106919, 390625);
        likely(chain(1, 6, 1, 1, 1, 1, 1), 0, 8, 128, 390625);
    }

    private static void p20_noSuchPart() {
        for (int part : Edges.NO_PARTS) {
            Edges.everywhere("likely(0, 0, 1, " + part + ")", NO, x -> x.likely(0, 0, 1, part));
        }
    }

    private static void p20_limitAbove6() {
        ShiftCharts x = chain(1, 6, 1, 1, 1, 1, 1);
        likely(x, 5, 1, 1, 5);
        for (int limit = 7; limit <= 12; limit++) {
            x.set(0, 3, limit);
            for (int level = 0; level < limit; level++) {
                Edges.due("LIMIT " + limit + ", LEVEL " + level, x.likely(0, level, 1, 0), NO);
                Edges.due("LIMIT " + limit + ", no STEPS", x.likely(0, level, 0, 1), NO);
            }
        }
    }

    private static void p20_allWeights0() {
        for (int step = -2; step <= 2; step++) {
            ShiftCharts x = chain(0, 1, 0, 0, 0, 0, 0);
            for (int n = 0; n <= 8; n++) Edges.due("all 0", x.likely(0, 0, n, 0), NO);
            x.weight(step, 1);
            likely(x, 0, 8, step > 0 ? 1 : 0, 1);
        }
    }

    private static void p20_neverIs0By1() {
        likely(chain(2, 4, 1, 1, 1, 1, 1), 3, 8, 0, 1);
        likely(chain(1, 4, 1, 1, 1, 1, 0), 3, 8, 0, 1);
        likely(chain(5, 1, 0, 0, 0, 0, 5), 0, 8, 0, 1);
    }

    private static void p20_theLimitOrMoreIsAnAlarm() {
        ShiftCharts x = chain(0, 4, 0, 0, 0, 0, 1);
        likely(x, 0, 1, 0, 1);
        likely(x, 0, 2, 1, 1);
        likely(x, 1, 1, 0, 1);
        likely(x, 2, 1, 1, 1);
        likely(x, 3, 1, 1, 1);
    }

    private static void p20_anAlarmStays() {
        likely(chain(0, 1, 0, 0, 1, 1, 0), 0, 1, 1, 2);
        likely(chain(0, 1, 0, 0, 1, 1, 0), 0, 2, 3, 4);
        likely(chain(0, 1, 0, 0, 1, 1, 0), 0, 8, 255, 256);
    }

    private static void p20_greatNumbers() {
        likely(chain(0, 4, 5, 5, 5, 4, 4), 0, 8, 27728744256L, 78310985281L);
        likely(chain(1, 6, 5, 5, 5, 5, 4), 5, 8, 6248411369L, 27518828544L);
        // 25 ways a STEP, 25 to the 8th in all, in lowest terms as by WEIGHTS 1.
        likely(chain(1, 1, 5, 5, 5, 5, 5), 0, 8, 325089, 390625);
    }

    private static void p20_asksOnly() {
        Edges.asks("likely(0, 0, 8, 0)", x -> x.likely(0, 0, 8, 0));
        Edges.asks("likely(2, 3, 2, 1)", x -> x.likely(2, 3, 2, 1));
    }
}
