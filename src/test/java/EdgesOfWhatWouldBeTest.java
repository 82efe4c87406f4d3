/** The edges that the document names of promises 21 to 30: what would be, odds, means, plans, books. */
public final class EdgesOfWhatWouldBeTest {
    private static final long NO = Edges.NO;
    private static final int LEAST = Edges.LEAST, MOST = Edges.MOST;

    public static void main(String[] args) {
        Edges.run(EdgesOfWhatWouldBeTest.class, 21, 30);
    }

    // ---- promise 21: would

    private static void p21_noSuchStream() {
        for (int s : Edges.NO_STREAMS) {
            Edges.everywhere("would(" + s + ", 2, 1)", -1, x -> x.would(s, 2, 1));
            Edges.everywhere("would(" + s + ", 3, 1)", -1, x -> x.would(s, 3, 1));
        }
    }

    private static void p21_noSuchWhat() {
        for (int what : new int[] {1, 4, 0, -1, LEAST, MOST}) {
            Edges.everywhere("would(0, " + what + ", 1)", -1, x -> x.would(0, what, 1));
        }
    }

    private static void p21_slacksOutside() {
        for (int v : new int[] {-1, 6, LEAST, MOST}) Edges.everywhere("would(0, 2, " + v + ")", -2, x -> x.would(0, 2, v));
    }

    private static void p21_slacksInside() {
        ShiftCharts x = Edges.with(3, 4, 4, 9);
        long[] first = {0, 1, 1, 2, 2, 2};
        for (int slack = 0; slack <= 5; slack++) Edges.due("SLACK " + slack, x.would(3, 2, slack), first[slack]);
        x.drop(3);
        Edges.due("SLACK 3, none", x.would(3, 2, 3), -5);
    }

    private static void p21_limitsOutside() {
        for (int v : new int[] {0, 13, -1, LEAST, MOST}) Edges.everywhere("would(0, 3, " + v + ")", -2, x -> x.would(0, 3, v));
    }

    private static void p21_limitsInside() {
        // UP is 1, 3, 6, 11, 12.
        ShiftCharts x = Edges.with(3, 2, 3, 4, 6, 2);
        long[] first = {0, 1, 1, 2, 2, 2, 3, 3, 3, 3, 3, 4};
        for (int limit = 1; limit <= 12; limit++) Edges.due("LIMIT " + limit, x.would(3, 3, limit), first[limit - 1]);
        x.drop(3);
        Edges.due("LIMIT 11", x.would(3, 3, 11), 3);
        Edges.due("LIMIT 12, none", x.would(3, 3, 12), -5);
    }

    private static void p21_noneAheadOfBad() {
        Edges.everywhere("would(4, 2, 6)", -1, x -> x.would(4, 2, 6));
        Edges.everywhere("would(0, 1, 21)", -1, x -> x.would(0, 1, 21));
        Edges.everywhere("would(0, 4, -1)", -1, x -> x.would(0, 4, -1));
    }

    private static void p21_noValues() {
        for (int v = 1; v <= 5; v++) {
            Edges.due("SLACK " + v, new ShiftCharts().would(0, 2, v), -5);
            Edges.due("LIMIT " + v, new ShiftCharts().would(0, 3, v), -5);
        }
    }

    private static void p21_startByTheLimitThatWouldBe() {
        // START would be 0 by LIMIT 1, 1 by 2, 6 by 12.
        ShiftCharts x = Edges.with(0, 7);
        Edges.set(x, 0, 1, 0, 1, 1);
        Edges.due("LIMIT 12, UP 12", x.would(0, 3, 12), 0);
        x.drop(0);
        x.value(0, 6);
        Edges.due("LIMIT 12, UP 11", x.would(0, 3, 12), -5);
        Edges.due("LIMIT 11, UP 10", x.would(0, 3, 11), -5);
        Edges.due("LIMIT 10, UP 10", x.would(0, 3, 10), 0);
    }

    private static void p21_lastPlace() {
        ShiftCharts x = Edges.many(0, 39, 0);
        x.value(0, 20);
        Edges.due("place 39", x.would(0, 3, 12), 39);
    }

    private static void p21_asksOnly() {
        Edges.asks("would(0, 2, 0)", x -> x.would(0, 2, 0));
        Edges.asks("would(3, 3, 12)", x -> x.would(3, 3, 12));
    }

    // ---- promise 22: quiet

    private static void p22_noSuchStream() {
        for (int s : Edges.NO_STREAMS) Edges.everywhere("quiet(" + s + ")", -1, x -> x.quiet(s));
    }

    private static void p22_noValues() {
        for (int s = 0; s < 4; s++) Edges.due("quiet(" + s + ")", new ShiftCharts().quiet(s), 0);
    }

    private static void p22_leastToGreatest() {
        // LIMIT 4: OFF 3 needs no SLACK, 4 needs 1, .. 8 needs 5, 9 has an ALARM by all.
        for (int off = 0; off <= 20; off++) {
            long due = off < 4 ? 0 : off < 9 ? off - 3 : -5;
            Edges.due("UP " + off, Edges.with(1, off).quiet(1), due);
            Edges.due("DOWN " + off, Edges.with(1, -off).quiet(1), due);
        }
    }

    private static void p22_whateverTheSlackIs() {
        ShiftCharts x = Edges.with(2, 6);
        for (int slack = 0; slack <= 5; slack++) {
            x.set(2, 2, slack);
            Edges.due("quiet by SLACK " + slack, x.quiet(2), 3);
        }
    }

    private static void p22_asksOnly() {
        for (int s = 0; s < 4; s++) {
            int stream = s;
            Edges.asks("quiet(" + s + ")", x -> x.quiet(stream));
        }
    }

    // ---- promise 23: see

    private static void p23_noSuchStream() {
        for (int s : new int[] {-2, 4, 5, LEAST, MOST}) Edges.everywhere("see(" + s + ", 0)", -1, x -> x.see(s, 0));
    }

    private static void p23_placesOutside() {
        for (int s = 0; s < 4; s++) {
            int stream = s;
            for (int place : new int[] {-1, 40, LEAST, MOST}) {
                Edges.everywhere("see(" + s + ", " + place + ")", -2, x -> x.see(stream, place));
            }
        }
    }

    private static void p23_placesInside() {
        ShiftCharts x = Edges.many(3, 40, 20);
        Edges.due("place 0", x.see(3, 0), 1);
        Edges.due("place 39", x.see(3, 39), 2);
        Edges.due("ALARMS at both", x.fits(3, 0), 12);
        x.drop(3);
        Edges.due("none at place 39", x.fits(3, 0), 0);
        Edges.due("a place without VALUE", x.see(0, 39), 3);
    }

    private static void p23_sixAtMost() {
        ShiftCharts x = new ShiftCharts();
        for (int i = 1; i <= 6; i++) Edges.due("the " + i + "th", x.see(i % 4, i), i);
        Edges.due("the seventh", x.see(0, 0), -4);
        Edges.due("still", x.count(1), 6);
        Edges.keeps(Edges.FULL, "see(0, 0)", -4, y -> y.see(0, 0));
        Edges.keeps(Edges.FULL, "see(3, 39)", -4, y -> y.see(3, 39));
    }

    private static void p23_theSixthCounts() {
        ShiftCharts x = Edges.with(1, 20);
        for (int i = 0; i < 5; i++) x.see(1, 0);
        Edges.due("five", x.fits(1, 0), 12);
        x.see(1, 1);
        Edges.due("the sixth", x.fits(1, 0), 0);
    }

    private static void p23_noneThen() {
        for (int place : new int[] {0, -1, 40, LEAST, MOST}) {
            for (Edges.Made state : new Edges.Made[] {Edges.FRESH, Edges.RICH, Edges.FULL}) {
                ShiftCharts x = state.anew();
                Edges.due("see(-1, " + place + ")", x.see(-1, place), 0);
                Edges.due("count(1)", x.count(1), 0);
                for (int s = 0; s < 4; s++) Edges.due("fits(" + s + ", 0)", x.fits(s, 0), 12);
                Edges.due("the first again", x.see(2, 0), 1);
            }
        }
        Edges.keeps(Edges.FRESH, "see(-1, 0)", 0, x -> x.see(-1, 0));
    }

    private static void p23_noneAheadOfBad() {
        Edges.everywhere("see(4, 40)", -1, x -> x.see(4, 40));
        Edges.everywhere("see(-2, -1)", -1, x -> x.see(-2, -1));
    }

    private static void p23_badAheadOfFull() {
        Edges.keeps(Edges.FULL, "see(0, 40)", -2, x -> x.see(0, 40));
        Edges.keeps(Edges.FULL, "see(3, -1)", -2, x -> x.see(3, -1));
    }

    // ---- promise 24: fits

    private static void fits(ShiftCharts x, int stream, long many, long least) {
        Edges.due("fits(" + stream + ", 0)", x.fits(stream, 0), many);
        Edges.due("fits(" + stream + ", 1)", x.fits(stream, 1), least);
    }

    private static void p24_noSuchStream() {
        for (int s : Edges.NO_STREAMS) {
            Edges.everywhere("fits(" + s + ", 0)", -1, x -> x.fits(s, 0));
            Edges.everywhere("fits(" + s + ", 1)", -1, x -> x.fits(s, 1));
        }
    }

    private static void p24_noSuchWhat() {
        for (int what : new int[] {-1, 2, LEAST, MOST}) Edges.everywhere("fits(0, " + what + ")", -1, x -> x.fits(0, what));
    }

    private static void p24_noneSeen() {
        for (int s = 0; s < 4; s++) {
            fits(new ShiftCharts(), s, 12, 1);
            ShiftCharts x = Edges.with(s, 20);
            x.see((s + 1) % 4, 0);
            fits(x, s, 12, 1);
            fits(x, (s + 1) % 4, 0, -5);
        }
    }

    private static void p24_limits1To12() {
        for (int v = 0; v <= 20; v++) {
            ShiftCharts x = Edges.with(0, v);
            x.set(0, 2, 0);
            x.see(0, 0);
            fits(x, 0, Math.min(v, 12), v == 0 ? -5 : 1);
        }
    }

    private static void p24_theLeastIsTheGreatestToo() {
        // ONCE: the first place has UP 11, the second 12; SEEN at the second alone by LIMIT 12.
        ShiftCharts x = Edges.with(0, 11, 1);
        Edges.set(x, 0, 4, 0, 0, 4);
        x.see(0, 1);
        fits(x, 0, 1, 12);
        x.drop(0);
        fits(x, 0, 0, -5);
    }

    private static void p24_atAllPlaces() {
        ShiftCharts x = Edges.with(0, 3, 0, 8);
        x.set(0, 2, 0);
        x.see(0, 0);
        fits(x, 0, 3, 1);
        x.see(0, 2);
        fits(x, 0, 3, 1);
        x.see(0, 1);
        fits(x, 0, 0, -5);
    }

    private static void p24_aPlaceWithoutValue() {
        ShiftCharts x = Edges.with(0, 20);
        x.see(0, 1);
        fits(x, 0, 0, -5);
        x.value(0, 20);
        fits(x, 0, 12, 1);
    }

    private static void p24_startByEachLimit() {
        // HEAD, SLACK 0, VALUE 4: by LIMIT 7 UP is 3 and 4, by 8 it is 4 and 4, by 9 it is 4 and 4.
        ShiftCharts x = Edges.with(0, 4);
        Edges.set(x, 0, 1, 0, 0, 1);
        x.see(0, 0);
        fits(x, 0, 8, 1);
    }

    private static void p24_asksOnly() {
        Edges.asks("fits(0, 0)", x -> x.fits(0, 0));
        Edges.asks("fits(3, 1)", x -> x.fits(3, 1));
    }

    // ---- promise 25: odds

    private static void odds(ShiftCharts x, int stream, long above, long below) {
        Edges.due("odds(" + stream + ", 0)", x.odds(stream, 0), above);
        Edges.due("odds(" + stream + ", 1)", x.odds(stream, 1), below);
    }

    private static void p25_noSuchStream() {
        for (int s : Edges.NO_STREAMS) {
            Edges.everywhere("odds(" + s + ", 0)", NO, x -> x.odds(s, 0));
            Edges.everywhere("odds(" + s + ", 1)", NO, x -> x.odds(s, 1));
        }
    }

    private static void p25_noSuchPart() {
        for (int part : Edges.NO_PARTS) Edges.everywhere("odds(0, " + part + ")", NO, x -> x.odds(0, part));
    }

    private static void p25_noValues() {
        for (int s = 0; s < 4; s++) odds(new ShiftCharts(), s, 0, 1);
    }

    private static void p25_limits1To10() {
        long[] aboves = {0, 1, 1, 3, 2, 1, 3, 7, 4, 9, 1, 1, 1};
        long[] belows = {1, 10, 5, 10, 5, 2, 5, 10, 5, 10, 1, 1, 1};
        for (int v = 0; v <= 12; v++) {
            ShiftCharts x = Edges.with(3, v);
            x.set(3, 2, 0);
            odds(x, 3, aboves[v], belows[v]);
            x.set(3, 3, 12);
            odds(x, 3, aboves[v], belows[v]);
        }
    }

    private static void p25_startByEachLimit() {
        // HEAD, SLACK 0, VALUE 4: an ALARM by LIMITS 1 to 8.
        ShiftCharts x = Edges.with(0, 4);
        Edges.set(x, 0, 1, 0, 0, 1);
        odds(x, 0, 4, 5);
    }

    private static void p25_asksOnly() {
        Edges.asks("odds(0, 0)", x -> x.odds(0, 0));
        Edges.asks("odds(1, 1)", x -> x.odds(1, 1));
    }

    // ---- promise 26: mean

    private static void mean(ShiftCharts x, int stream, long above, long below) {
        Edges.due("mean(" + stream + ", 0)", x.mean(stream, 0), above);
        Edges.due("mean(" + stream + ", 1)", x.mean(stream, 1), below);
    }

    private static void p26_noSuchStream() {
        for (int s : Edges.NO_STREAMS) {
            Edges.everywhere("mean(" + s + ", 0)", NO, x -> x.mean(s, 0));
            Edges.everywhere("mean(" + s + ", 1)", NO, x -> x.mean(s, 1));
        }
    }

    private static void p26_noSuchPart() {
        for (int part : Edges.NO_PARTS) Edges.everywhere("mean(0, " + part + ")", NO, x -> x.mean(0, part));
    }

    private static void p26_noValues() {
        for (int s = 0; s < 4; s++) {
            ShiftCharts x = new ShiftCharts();
            mean(x, s, NO, NO);
            x.value(s, 0);
            mean(x, s, 0, 1);
            x.drop(s);
            mean(x, s, NO, NO);
        }
    }

    private static void p26_aboveZeroBelowTheLine() {
        mean(Edges.with(1, -1, 0), 1, -1, 2);
        mean(Edges.with(1, -3), 1, -3, 1);
        mean(Edges.with(1, 1, -1), 1, 0, 1);
        mean(Edges.with(1, 0, 0, 0), 1, 0, 1);
    }

    private static void p26_lowestTerms() {
        mean(Edges.with(2, 4, 2), 2, 3, 1);
        mean(Edges.with(2, 1, 1, 4, 0), 2, 3, 2);
        mean(Edges.with(2, -1, -1, -4, 0), 2, -3, 2);
        mean(Edges.with(2, 2, 0, 0), 2, 2, 3);
    }

    private static void p26_ofForty() {
        mean(Edges.many(0, 40, 20), 0, 20, 1);
        mean(Edges.many(0, 40, -20), 0, -20, 1);
        ShiftCharts x = Edges.many(0, 39, 20);
        x.value(0, 19);
        mean(x, 0, 799, 40);
    }

    private static void p26_asksOnly() {
        Edges.asks("mean(0, 0)", x -> x.mean(0, 0));
        Edges.asks("mean(1, 1)", x -> x.mean(1, 1));
    }

    // ---- promise 27: plan

    private static void p27_noSuchWhat() {
        for (int what : new int[] {-2, 4, 5, LEAST, MOST}) Edges.everywhere("plan(" + what + ", 0)", -1, x -> x.plan(what, 0));
    }

    private static void outside(int what, int low, int high) {
        for (int n : new int[] {low - 1, high + 1, LEAST, MOST}) {
            Edges.everywhere("plan(" + what + ", " + n + ")", -2, x -> x.plan(what, n));
        }
    }

    private static void inside(int what, int low, int high) {
        for (int n = low; n <= high; n++) {
            ShiftCharts x = new ShiftCharts();
            Edges.due("plan(" + what + ", " + n + ")", x.plan(what, n), 1);
            Edges.due("count(2)", x.count(2), 1);
        }
    }

    private static void p27_values() { inside(0, -20, 20); }

    private static void p27_noSuchValue() { outside(0, -20, 20); }

    private static void p27_targets() { inside(1, -20, 20); }

    private static void p27_noSuchTarget() { outside(1, -20, 20); }

    private static void p27_slacks() { inside(2, 0, 5); }

    private static void p27_noSuchSlack() { outside(2, 0, 5); }

    private static void p27_howManyGo() { inside(3, 0, 40); }

    private static void p27_noSuchManyGo() { outside(3, 0, 40); }

    private static void p27_eightAtMost() {
        ShiftCharts x = new ShiftCharts();
        for (int i = 1; i <= 8; i++) Edges.due("the " + i + "th", x.plan(i % 4, 1), i);
        Edges.due("the ninth", x.plan(0, 0), -4);
        Edges.due("still", x.count(2), 8);
        for (int w = 0; w < 4; w++) {
            int what = w;
            Edges.keeps(Edges.FULL, "plan(" + w + ", 5)", -4, y -> y.plan(what, 5));
        }
    }

    private static void p27_emptyThen() {
        for (int n : new int[] {0, -21, 41, LEAST, MOST}) {
            for (Edges.Made state : new Edges.Made[] {Edges.FRESH, Edges.RICH, Edges.FULL}) {
                ShiftCharts x = state.anew();
                Edges.due("plan(-1, " + n + ")", x.plan(-1, n), 0);
                Edges.due("count(2)", x.count(2), 0);
                Edges.due("ends(0)", x.ends(0), x.alarms(0));
                Edges.due("the first again", x.plan(3, 40), 1);
            }
        }
        Edges.keeps(Edges.FRESH, "plan(-1, 0)", 0, x -> x.plan(-1, 0));
    }

    private static void p27_noneAheadOfBad() {
        Edges.everywhere("plan(4, 41)", -1, x -> x.plan(4, 41));
        Edges.everywhere("plan(-2, -21)", -1, x -> x.plan(-2, -21));
    }

    private static void p27_badAheadOfFull() {
        Edges.keeps(Edges.FULL, "plan(0, 21)", -2, x -> x.plan(0, 21));
        Edges.keeps(Edges.FULL, "plan(1, -21)", -2, x -> x.plan(1, -21));
        Edges.keeps(Edges.FULL, "plan(2, 6)", -2, x -> x.plan(2, 6));
        Edges.keeps(Edges.FULL, "plan(3, 41)", -2, x -> x.plan(3, 41));
    }

    // ---- promise 28: ends

    private static void ends(ShiftCharts x, long alarms, long first, long change) {
        Edges.due("ends(0)", x.ends(0), alarms);
        Edges.due("ends(1)", x.ends(1), first);
        Edges.due("ends(2)", x.ends(2), change);
    }

    private static void p28_noSuchWhat() {
        for (int what : new int[] {-1, 3, LEAST, MOST}) Edges.everywhere("ends(" + what + ")", -1, x -> x.ends(what));
    }

    private static void p28_noPlan() {
        ends(new ShiftCharts(), 0, -5, -5);
        ends(Edges.with(0, 4), 0, -5, -5);
        ends(Edges.with(0, 5), 1, 0, -5);
        ends(Edges.with(0, 5, 5), 2, 0, 1);
    }

    private static void p28_ofStream0Alone() {
        ShiftCharts x = Edges.with(1, 20, 20);
        Edges.come(x, 2, 20);
        Edges.come(x, 3, 20, 20);
        ends(x, 0, -5, -5);
        x.plan(0, 5);
        ends(x, 1, 0, -5);
    }

    private static void p28_roomForOne() {
        ShiftCharts x = Edges.many(0, 39, 0);
        x.plan(0, 20);
        ends(x, 1, 39, 39);
        x.plan(0, 20);
        ends(x, 1, 39, 39);
    }

    private static void p28_noRoom() {
        ShiftCharts x = Edges.many(0, 40, 0);
        x.plan(0, 20);
        ends(x, 0, -5, 1);
        x.plan(3, 1);
        ends(x, 0, -5, 1);
        x.plan(0, 20);
        ends(x, 1, 39, 39);
    }

    private static void p28_valuesOfThePlan() {
        ShiftCharts x = new ShiftCharts();
        x.plan(0, 20);
        ends(x, 1, 0, -5);
        x.plan(0, -20);
        ends(x, 2, 0, 1);
    }

    private static void p28_targetsOfThePlan() {
        ShiftCharts x = Edges.with(0, 0);
        x.plan(1, -20);
        ends(x, 1, 0, -5);
        x.plan(1, -4);
        ends(x, 0, -5, -5);
        x.plan(1, 20);
        ends(x, 1, 0, -5);
    }

    private static void p28_slacksOfThePlan() {
        ShiftCharts x = Edges.with(0, 4);
        x.plan(2, 0);
        ends(x, 1, 0, -5);
        x.plan(2, 5);
        ends(x, 0, -5, -5);
        x.plan(0, 8);
        ends(x, 0, -5, 1);
        x.plan(0, 9);
        ends(x, 1, 2, 1);
    }

    private static void p28_theFirstOnesGo() {
        ShiftCharts x = Edges.with(0, 20, 0, 20, 0);
        x.plan(3, 0);
        ends(x, 2, 0, 1);
        x.plan(3, 1);
        ends(x, 1, 1, 1);
        x.plan(3, 1);
        ends(x, 1, 0, 1);
        x.plan(3, 1);
        ends(x, 0, -5, -5);
    }

    private static void p28_asManyAsThereAre() {
        for (int n : new int[] {2, 3, 40}) {
            ShiftCharts x = Edges.with(0, 20, 20);
            x.plan(3, n);
            ends(x, 0, -5, -5);
            x.plan(0, 20);
            ends(x, 1, 0, -5);
        }
        ShiftCharts y = Edges.with(0, 20, 20);
        y.plan(3, 1);
        ends(y, 1, 0, -5);
        ShiftCharts none = new ShiftCharts();
        none.plan(3, 40);
        ends(none, 0, -5, -5);
        ShiftCharts forty = Edges.many(0, 40, 20);
        forty.plan(3, 39);
        ends(forty, 1, 0, -5);
        forty.plan(3, 40);
        ends(forty, 0, -5, -5);
    }

    private static void p28_theEighthRowToo() {
        ShiftCharts x = new ShiftCharts();
        for (int i = 0; i < 8; i++) x.plan(0, 20);
        ends(x, 8, 0, 1);
        x.plan(0, 20);
        ends(x, 8, 0, 1);
    }

    private static void p28_byItsKindAndLimit() {
        ShiftCharts x = Edges.with(0, 20, 20);
        x.set(0, 0, 4);
        x.plan(0, 20);
        ends(x, 1, 0, 1);
        x.set(0, 0, 2);
        x.set(0, 3, 12);
        ends(x, 1, 2, 1);
        x.set(0, 0, 3);
        ends(x, 1, 1, 1);
    }

    private static void p28_asksOnly() {
        for (int w = 0; w < 3; w++) {
            int what = w;
            Edges.asks("ends(" + w + ")", x -> x.ends(what));
        }
    }

    // ---- promise 29: book

    private static void p29_noSuchStream() {
        for (int s : new int[] {-2, 4, 5, LEAST, MOST}) Edges.everywhere("book(" + s + ", 0)", -1, x -> x.book(s, 0));
    }

    private static void p29_alarmsOutside() {
        for (int s = 0; s < 4; s++) {
            int stream = s;
            for (int n : new int[] {-1, 41, LEAST, MOST}) {
                Edges.everywhere("book(" + s + ", " + n + ")", -2, x -> x.book(stream, n));
            }
        }
    }

    private static void p29_alarmsInside() {
        ShiftCharts x = Edges.many(3, 40, 20);
        Edges.due("0", x.book(0, 0), 1);
        Edges.due("40", x.book(3, 40), 2);
        Edges.due("as told", x.looked(), -5);
        x.drop(3);
        Edges.due("39 now", x.looked(), 1);
        for (int n = 0; n <= 40; n++) {
            x.book(-1, 0);
            Edges.due("book(2, " + n + ")", x.book(2, n), 1);
        }
    }

    private static void p29_eightAtMost() {
        ShiftCharts x = new ShiftCharts();
        for (int i = 1; i <= 8; i++) Edges.due("the " + i + "th", x.book(i % 4, 0), i);
        Edges.due("the ninth", x.book(0, 0), -4);
        Edges.due("still", x.count(3), 8);
        Edges.keeps(Edges.FULL, "book(0, 1)", -4, y -> y.book(0, 1));
        Edges.keeps(Edges.FULL, "book(3, 40)", -4, y -> y.book(3, 40));
    }

    private static void p29_emptyThen() {
        for (int n : new int[] {0, -1, 41, LEAST, MOST}) {
            for (Edges.Made state : new Edges.Made[] {Edges.FRESH, Edges.RICH, Edges.FULL}) {
                ShiftCharts x = state.anew();
                Edges.due("book(-1, " + n + ")", x.book(-1, n), 0);
                Edges.due("count(3)", x.count(3), 0);
                Edges.due("looked()", x.looked(), -5);
                Edges.due("the first again", x.book(3, 40), 1);
            }
        }
        Edges.keeps(Edges.FRESH, "book(-1, 0)", 0, x -> x.book(-1, 0));
    }

    private static void p29_noneAheadOfBad() {
        Edges.everywhere("book(4, 41)", -1, x -> x.book(4, 41));
        Edges.everywhere("book(-2, -1)", -1, x -> x.book(-2, -1));
    }

    private static void p29_badAheadOfFull() {
        Edges.keeps(Edges.FULL, "book(0, 41)", -2, x -> x.book(0, 41));
        Edges.keeps(Edges.FULL, "book(3, -1)", -2, x -> x.book(3, -1));
    }

    // ---- promise 30: looked

    private static void p30_noRows() {
        Edges.due("without VALUES", new ShiftCharts().looked(), -5);
        Edges.due("with ALARMS", Edges.with(0, 20).looked(), -5);
    }

    private static void p30_firstAndLastRow() {
        for (int wrong = 0; wrong < 8; wrong++) {
            ShiftCharts x = Edges.with(1, 20);
            for (int i = 0; i < 8; i++) x.book(i % 2, i == wrong ? 1 - i % 2 : i % 2);
            Edges.due("row " + wrong, x.looked(), wrong);
        }
    }

    private static void p30_theFirstOfSeveral() {
        ShiftCharts x = Edges.with(2, 20, 20);
        x.book(2, 2);
        x.book(2, 1);
        x.book(2, 3);
        Edges.due("too few told ahead of too many", x.looked(), 1);
        x.value(2, 20);
        Edges.due("three now", x.looked(), 0);
    }

    private static void p30_oneMoreOrLess() {
        ShiftCharts x = Edges.with(0, 20, 20);
        x.book(0, 2);
        Edges.due("two", x.looked(), -5);
        x.drop(0);
        Edges.due("one", x.looked(), 0);
        Edges.come(x, 0, 20, 20);
        Edges.due("three", x.looked(), 0);
    }

    private static void p30_asksOnly() {
        Edges.asks("looked()", x -> x.looked());
        Edges.keeps(() -> {
            ShiftCharts x = Edges.RICH.anew();
            x.book(0, 40);
            return x;
        }, "looked() as row 4", 4, x -> x.looked());
    }
}
