/** The edges that the document names of promises 31 to 38: judging, the image, counts, tapes. */
public final class EdgesOfTapesTest {
    private static final long NO = Edges.NO;
    private static final int LEAST = Edges.LEAST, MOST = Edges.MOST;
    private static final int BYTES = 0, SHORTS = 1, INTS = 2, LONGS = 3, BOOLEANS = 4;

    public static void main(String[] args) {
        Edges.run(EdgesOfTapesTest.class, 31, 38);
    }

    private static void tape(ShiftCharts x, int tape, int sort, long... items) {
        x.tape(tape, sort, items.length);
        for (int i = 0; i < items.length; i++) x.item(tape, i, items[i]);
    }

    private static void holds(ShiftCharts x, int tape, long... items) {
        for (int i = 0; i < items.length; i++) Edges.due("peek(" + tape + ", " + i + ")", x.peek(tape, i), items[i]);
        Edges.due("peek(" + tape + ", " + items.length + ")", x.peek(tape, items.length), NO);
    }

    // ---- promise 31: judge

    /** VALUES 3, 2, -1, 4 by SLACK 1, LIMIT 4: UP is 2, 3, 1, and 0 behind its ALARM. */
    private static ShiftCharts judged(long... items) {
        ShiftCharts x = Edges.with(0, 3, 2, -1, 4);
        tape(x, 5, LONGS, items);
        return x;
    }

    private static void p31_noSuchStream() {
        for (int s : Edges.NO_STREAMS) {
            for (int t = 0; t < 6; t++) {
                int tape = t;
                Edges.everywhere("judge(" + s + ", " + t + ", 0)", -1, x -> x.judge(s, tape, 0));
            }
        }
    }

    private static void p31_noSuchTape() {
        for (int t : Edges.NO_TAPES) {
            for (int s = 0; s < 4; s++) {
                int stream = s;
                Edges.everywhere("judge(" + s + ", " + t + ", 0)", -1, x -> x.judge(stream, t, 0));
            }
        }
    }

    private static void p31_noRowOfLongs() {
        for (int sort = 0; sort < 5; sort++) {
            for (int n : new int[] {0, 1, 60}) {
                ShiftCharts x = Edges.with(0, 3);
                x.tape(1, sort, n);
                Edges.due("sort " + sort + ", row of " + n, x.judge(0, 1, 0), sort != LONGS ? -12 : n == 0 ? 100 : 0);
                Edges.due("place -1", x.judge(0, 1, -1), sort != LONGS ? -12 : 100);
            }
        }
        for (int t : new int[] {0, 1, 2, 4}) Edges.keeps(Edges.RICH, "judge(0, " + t + ", 0)", -12, x -> x.judge(0, t, 0));
    }

    private static void p31_castAheadOfNoValues() {
        for (int sort = 0; sort < 5; sort++) {
            ShiftCharts x = new ShiftCharts();
            x.tape(0, sort, 2);
            Edges.due("no VALUES, sort " + sort, x.judge(3, 0, 0), sort == LONGS ? -5 : -12);
        }
    }

    private static void p31_noneAheadOfCast() {
        Edges.keeps(Edges.RICH, "judge(4, 0, 0)", -1, x -> x.judge(4, 0, 0));
        Edges.keeps(Edges.RICH, "judge(-1, 1, -1)", -1, x -> x.judge(-1, 1, -1));
    }

    private static void p31_noneAheadOfNoValues() {
        Edges.keeps(Edges.FRESH, "judge(0, 6, 0)", -1, x -> x.judge(0, 6, 0));
        Edges.keeps(Edges.FRESH, "judge(4, 0, 0)", -1, x -> x.judge(4, 0, 0));
    }

    private static void p31_noValues() {
        ShiftCharts x = new ShiftCharts();
        x.tape(2, LONGS, 3);
        for (int s = 0; s < 4; s++) Edges.due("judge(" + s + ", 2, 0)", x.judge(s, 2, 0), -5);
        x.value(1, 0);
        x.drop(1);
        Edges.due("none any more", x.judge(1, 2, 0), -5);
    }

    private static void p31_noValuesAndHoldsNothing() {
        for (int s = 0; s < 4; s++) {
            int stream = s;
            for (int t = 0; t < 6; t++) {
                int tape = t;
                Edges.keeps(Edges.FRESH, "judge(" + s + ", " + t + ", 0)", -5, x -> x.judge(stream, tape, 0));
            }
        }
    }

    private static void p31_noValuesWhateverThePlace() {
        ShiftCharts x = new ShiftCharts();
        x.tape(2, LONGS, 3);
        for (int i : new int[] {-1, 3, LEAST, MOST}) Edges.due("judge(0, 2, " + i + ")", x.judge(0, 2, i), -5);
    }

    private static void p31_holdsNothing() {
        for (int i : new int[] {0, 1, 59, 60, -1, LEAST, MOST}) {
            Edges.due("never held", Edges.with(2, 0).judge(2, 0, i), 100);
            ShiftCharts x = Edges.with(2, 0);
            x.tape(0, LONGS, 9);
            x.tape(0, -1, 9);
            Edges.due("holds nothing any more", x.judge(2, 0, i), 100);
        }
    }

    private static void p31_placeBelow0() {
        ShiftCharts x = judged(2, 3, 1, 0, 0, 0);
        for (int i : new int[] {-1, -2, -4, LEAST, LEAST + 1}) Edges.due("judge(0, 5, " + i + ")", x.judge(0, 5, i), 100);
        Edges.due("place 0", x.judge(0, 5, 0), -5);
    }

    private static void p31_rowEndsAhead() {
        ShiftCharts x = judged(2, 3, 1);
        Edges.due("three looked at", x.judge(0, 5, 0), 103);
        Edges.due("its last place", judged(9, 9, 2).judge(0, 5, 2), 101);
        for (int i : new int[] {3, 4, 59, 60, 61, MOST - 1, MOST}) Edges.due("judge(0, 5, " + i + ")", x.judge(0, 5, i), 100);
        Edges.due("a row of none", judged().judge(0, 5, 0), 100);
        Edges.due("a row of one", judged(2).judge(0, 5, 0), 101);
    }

    private static void p31_rowEndsWithTheValues() {
        Edges.due("from 0", judged(2, 3, 1, 0).judge(0, 5, 0), -5);
        Edges.due("from 2", judged(7, 7, 2, 3, 1, 0).judge(0, 5, 2), -5);
        Edges.due("one is too few", judged(7, 7, 2, 3, 1).judge(0, 5, 2), 103);
        Edges.due("more behind", judged(2, 3, 1, 0, 8).judge(0, 5, 0), -5);
    }

    private static void p31_theFirstOtherwise() {
        Edges.due("the first", judged(1, 3, 1, 0).judge(0, 5, 0), 0);
        Edges.due("the second", judged(2, 2, 1, 0).judge(0, 5, 0), 1);
        Edges.due("the last", judged(2, 3, 1, 1).judge(0, 5, 0), 3);
        Edges.due("the first of two", judged(2, 3, 9, 9).judge(0, 5, 0), 2);
        Edges.due("counted from that place on", judged(0, 0, 2, 3, 1, 9).judge(0, 5, 2), 3);
        Edges.due("otherwise ahead of the row's end", judged(2, 0).judge(0, 5, 0), 1);
    }

    private static void p31_allBitsOfALong() {
        for (long more : new long[] {1L << 32, 1L << 63, -1L << 32, 1L << 8, -1L << 16}) {
            Edges.due("2 and " + more, judged(2 + more, 3, 1, 0).judge(0, 5, 0), 0);
        }
        for (long item : new long[] {Long.MIN_VALUE, Long.MAX_VALUE, -2}) {
            Edges.due("" + item, judged(item, 3, 1, 0).judge(0, 5, 0), 0);
        }
    }

    private static void p31_behindItsAlarm() {
        ShiftCharts x = Edges.with(1, 2, 20, 20);
        Edges.set(x, 1, 1, 0, 0, 4);
        tape(x, 0, LONGS, 2, 2, 2);
        Edges.due("START 2 behind each", x.judge(1, 0, 0), -5);
        x.set(1, 0, 4);
        tape(x, 0, LONGS, 2, 0, 0);
        Edges.due("ONCE, 0 for good", x.judge(1, 0, 0), -5);
    }

    private static void p31_fortyOfSixty() {
        ShiftCharts x = Edges.many(3, 40, 20);
        x.tape(0, LONGS, 60);
        Edges.due("from 0", x.judge(3, 0, 0), -5);
        Edges.due("from 20", x.judge(3, 0, 20), -5);
        Edges.due("from 21", x.judge(3, 0, 21), 139);
        Edges.due("from 59", x.judge(3, 0, 59), 101);
        Edges.due("from 60", x.judge(3, 0, 60), 100);
        x.item(0, 59, 1);
        Edges.due("the fortieth", x.judge(3, 0, 20), 39);
        Edges.due("not looked at", x.judge(3, 0, 19), -5);
    }

    private static void p31_asksOnly() {
        Edges.asks("judge(0, 3, 0)", x -> x.judge(0, 3, 0));
        Edges.asks("judge(1, 0, 20)", x -> x.judge(1, 0, 20));
    }

    // ---- promise 32: image

    private static void p32_noValues() {
        ShiftCharts x = new ShiftCharts();
        Edges.due("image()", x.image(), 0);
        Edges.come(x, 2, 1, 2);
        Edges.due("undo()", x.undo(), 0);
        Edges.due("at(2, 0)", x.at(2, 0), NO);
    }

    private static void p32_allAreFull() {
        ShiftCharts x = new ShiftCharts();
        for (int i = 0; i < 160; i++) x.value(i / 40, i % 20);
        Edges.due("image()", x.image(), 160);
        for (int i = 0; i < 160; i++) x.drop(i / 40);
        Edges.due("none now", x.count(0), 0);
        Edges.due("undo()", x.undo(), 160);
        for (int s = 0; s < 4; s++) Edges.due("the last of " + s, x.at(s, 39), 19);
        Edges.due("FULL again", x.value(3, 0), -4);
    }

    private static void p32_theLatestOne() {
        ShiftCharts x = Edges.with(0, 1);
        Edges.due("the first", x.image(), 1);
        x.value(0, 2);
        Edges.due("the second", x.image(), 2);
        x.drop(0);
        x.drop(0);
        Edges.due("undo()", x.undo(), 2);
        Edges.due("at(0, 1)", x.at(0, 1), 2);
    }

    private static void p32_asItWasWhenTaken() {
        ShiftCharts x = Edges.RICH.anew();
        ShiftCharts twin = Edges.RICH.anew();
        Edges.due("image()", x.image(), x.count(0));
        Edges.due("changes nothing else", Edges.told(x).equals(Edges.told(twin)) ? 1 : 0, 1);
    }

    // ---- promise 33: undo

    private static void p33_noImage() {
        Edges.keeps(Edges.FRESH, "undo()", -3, x -> x.undo());
        Edges.keeps(() -> {
            ShiftCharts x = Edges.with(1, 5, 6);
            x.weight(0, 4);
            x.see(1, 1);
            Edges.feed(x, "v01");
            tape(x, 2, INTS, 4, 5);
            return x;
        }, "undo()", -3, x -> x.undo());
    }

    private static void p33_imageJustTaken() {
        Edges.keeps(Edges.FULL, "undo()", 42, x -> x.undo());
    }

    private static void p33_allIsAsTheImage() {
        ShiftCharts x = Edges.FULL.anew();
        for (int s = 0; s < 4; s++) Edges.set(x, s, 4, 20, 5, 12);
        for (int i = 0; i < 40; i++) x.drop(0);
        for (int step = -2; step <= 2; step++) x.weight(step, 0);
        x.see(-1, 0);
        x.plan(-1, 0);
        x.book(-1, 0);
        x.undo();
        Edges.due("all as before", Edges.told(x).equals(Edges.told(Edges.FULL.anew())) ? 1 : 0, 1);
    }

    private static void p33_eachPartAlone() {
        Edges.Call[] changes = {x -> x.value(1, 7), x -> x.drop(3), x -> x.set(0, 0, 1), x -> x.set(1, 1, 3),
            x -> x.set(2, 2, 5), x -> x.set(3, 3, 12), x -> x.weight(-2, 5), x -> x.weight(2, 0), x -> x.see(-1, 0),
            x -> x.plan(-1, 0), x -> x.book(-1, 0)};
        for (int c = 0; c < changes.length; c++) {
            ShiftCharts x = Edges.FULL.anew();
            changes[c].on(x);
            boolean changed = !Edges.told(x).equals(Edges.told(Edges.FULL.anew()));
            ShiftCharts y = Edges.FULL.anew();
            changes[c].on(y);
            y.undo();
            Edges.due("change " + c + " is one", changed ? 1 : 0, 1);
            Edges.due("change " + c + " undone", Edges.told(y).equals(Edges.told(Edges.FULL.anew())) ? 1 : 0, 1);
        }
    }

    private static void p33_rowsOfSeenAnew() {
        // As many rows as THE IMAGE has, but others.
        ShiftCharts x = Edges.with(0, 20, 0);
        x.see(0, 0);
        x.image();
        x.see(-1, 0);
        x.see(0, 1);
        Edges.due("now", x.fits(0, 0), 0);
        x.undo();
        Edges.due("as THE IMAGE", x.fits(0, 0), 12);
        x.see(-1, 0);
        x.see(1, 0);
        x.undo();
        Edges.due("of the STREAM too", x.fits(1, 0), 12);
    }

    private static void p33_rowsOfThePlanAnew() {
        ShiftCharts x = Edges.with(0, 20, 0);
        x.plan(0, 20);
        x.image();
        x.plan(-1, 0);
        x.plan(3, 20);
        Edges.due("now", x.ends(0), 0);
        x.undo();
        Edges.due("as THE IMAGE", x.ends(0), 2);
    }

    private static void p33_rowsOfTheBookAnew() {
        ShiftCharts x = Edges.with(0, 20, 0);
        x.book(0, 1);
        x.image();
        x.book(-1, 0);
        x.book(1, 1);
        Edges.due("now", x.looked(), 0);
        x.undo();
        Edges.due("as THE IMAGE", x.looked(), -5);
    }

    private static void p33_theTextStays() {
        ShiftCharts x = new ShiftCharts();
        Edges.feed(x, "v0");
        x.image();
        Edges.feed(x, "-7");
        x.undo();
        Edges.due("count(4)", x.count(4), 4);
        Edges.due("read()", x.read(), 1);
        Edges.due("at(0, 0)", x.at(0, 0), -7);
        x.undo();
        Edges.due("empty stays empty", x.count(4), 0);
    }

    private static void p33_theTapesStay() {
        ShiftCharts x = new ShiftCharts();
        tape(x, 0, BYTES, 1, 2);
        tape(x, 1, LONGS, 3);
        x.image();
        x.item(0, 1, 9);
        x.tape(1, -1, 0);
        tape(x, 5, SHORTS, 4, 5, 6);
        x.undo();
        holds(x, 0, 1, 9);
        Edges.due("item(1, 0, 0)", x.item(1, 0, 0), -11);
        holds(x, 5, 4, 5, 6);
    }

    private static void p33_again() {
        ShiftCharts x = Edges.with(0, 1, 2);
        x.image();
        for (int i = 0; i < 3; i++) {
            x.value(0, 9);
            x.drop(0);
            x.drop(0);
            x.value(0, i);
            Edges.due("undo()", x.undo(), 2);
            Edges.due("at(0, 1)", x.at(0, 1), 2);
            Edges.due("at once again", x.undo(), 2);
        }
    }

    private static void p33_whatComesBehindLeavesTheImage() {
        ShiftCharts x = Edges.with(0, 1, 2);
        x.image();
        x.undo();
        x.drop(0);
        x.value(0, 9);
        x.weight(1, 5);
        x.see(0, 0);
        x.undo();
        Edges.due("VALUE", x.at(0, 1), 2);
        Edges.due("WEIGHT", x.weighs(1), 1);
        Edges.due("SEEN", x.count(1), 0);
    }

    // ---- promise 34: count

    private static void p34_noSuchWhat() {
        for (int what : new int[] {-1, 5, LEAST, MOST}) Edges.everywhere("count(" + what + ")", -2, x -> x.count(what));
    }

    private static void p34_none() {
        for (int what = 0; what < 5; what++) Edges.due("count(" + what + ")", new ShiftCharts().count(what), 0);
    }

    private static void p34_allFull() {
        ShiftCharts x = Edges.FULL.anew();
        long[] most = {42, 6, 8, 8, 100};
        for (int what = 0; what < 5; what++) Edges.due("count(" + what + ")", x.count(what), most[what]);
        for (int i = 0; i < 120; i++) x.value(1 + i / 40, 0);
        Edges.due("all STREAMS are full", x.count(0), 160);
        x.drop(2);
        Edges.due("one less", x.count(0), 159);
    }

    private static void p34_asksOnly() {
        for (int w = 0; w < 5; w++) {
            int what = w;
            Edges.asks("count(" + w + ")", x -> x.count(what));
        }
    }

    // ---- promise 35: tape

    private static void p35_noSuchTape() {
        for (int t : Edges.NO_TAPES) {
            Edges.everywhere("tape(" + t + ", 0, 1)", -1, x -> x.tape(t, 0, 1));
            Edges.everywhere("tape(" + t + ", -1, 0)", -1, x -> x.tape(t, -1, 0));
        }
    }

    private static void p35_noSuchSort() {
        for (int sort : new int[] {-2, 5, LEAST, MOST}) {
            for (int t = 0; t < 6; t++) {
                int tape = t;
                Edges.everywhere("tape(" + t + ", " + sort + ", 1)", -2, x -> x.tape(tape, sort, 1));
            }
        }
    }

    private static void p35_nAbove60() {
        for (int s = 0; s < 5; s++) {
            int sort = s;
            for (int n : new int[] {61, 62, 100, MOST}) {
                Edges.everywhere("tape(0, " + s + ", " + n + ")", -2, x -> x.tape(0, sort, n));
            }
        }
    }

    private static void p35_sizeBelow0() {
        for (int s = 0; s < 5; s++) {
            int sort = s;
            for (int n : new int[] {-1, -60, LEAST}) {
                Edges.everywhere("tape(0, " + s + ", " + n + ")", -14, x -> x.tape(0, sort, n));
                Edges.everywhere("tape(3, " + s + ", " + n + ")", -14, x -> x.tape(3, sort, n));
            }
        }
    }

    private static void p35_noneAheadOfBad() {
        Edges.everywhere("tape(6, 5, 61)", -1, x -> x.tape(6, 5, 61));
        Edges.everywhere("tape(-1, -2, -1)", -1, x -> x.tape(-1, -2, -1));
        Edges.everywhere("tape(6, 0, -1)", -1, x -> x.tape(6, 0, -1));
    }

    private static void p35_badAheadOfSize() {
        for (int n : new int[] {-1, LEAST}) {
            Edges.everywhere("tape(0, 5, " + n + ")", -2, x -> x.tape(0, 5, n));
            Edges.everywhere("tape(0, -2, " + n + ")", -2, x -> x.tape(0, -2, n));
        }
    }

    private static void p35_rowsOf0To60() {
        for (int sort = 0; sort < 5; sort++) {
            for (int n : new int[] {0, 1, 59, 60}) {
                ShiftCharts x = new ShiftCharts();
                Edges.due("tape(5, " + sort + ", " + n + ")", x.tape(5, sort, n), 1);
                for (int i = 0; i < n; i++) Edges.due("peek(5, " + i + ")", x.peek(5, i), 0);
                Edges.due("peek(5, " + n + ")", x.peek(5, n), NO);
                Edges.due("item(5, " + n + ", 1)", x.item(5, n, 1), -13);
                if (n > 0) Edges.due("item(5, n - 1, 1)", x.item(5, n - 1, 1), 1);
            }
        }
    }

    private static void p35_firstAndLastTape() {
        ShiftCharts x = new ShiftCharts();
        for (int t = 0; t < 6; t++) tape(x, t, INTS, t + 1);
        for (int t = 0; t < 6; t++) holds(x, t, t + 1);
    }

    private static void p35_all0Again() {
        ShiftCharts x = new ShiftCharts();
        tape(x, 2, LONGS, 1, 2, 3, 4);
        x.tape(2, LONGS, 2);
        holds(x, 2, 0, 0);
        x.item(2, 1, 5);
        x.tape(2, BYTES, 4);
        holds(x, 2, 0, 0, 0, 0);
    }

    private static void p35_holdsNothing() {
        for (int n : new int[] {0, 1, 60, 61, -1, LEAST, MOST}) {
            ShiftCharts x = new ShiftCharts();
            tape(x, 4, BOOLEANS, 1, 1);
            Edges.due("tape(4, -1, " + n + ")", x.tape(4, -1, n), 1);
            Edges.due("peek(4, 0)", x.peek(4, 0), NO);
            Edges.due("item(4, 0, 1)", x.item(4, 0, 1), -11);
            Edges.due("nothing again", x.tape(4, -1, n), 1);
        }
    }

    private static void p35_aRowOfNoneIsSomething() {
        ShiftCharts x = new ShiftCharts();
        x.tape(4, INTS, 0);
        Edges.due("item(4, 0, 1)", x.item(4, 0, 1), -13);
        Edges.due("shift of none", x.shift(4, 0, 4, 0, 0), 0);
    }

    // ---- promise 36: item

    private static void p36_noSuchTape() {
        for (int t : Edges.NO_TAPES) Edges.everywhere("item(" + t + ", 0, 1)", -1, x -> x.item(t, 0, 1));
    }

    private static void p36_nothing() {
        for (int t = 0; t < 6; t++) {
            int tape = t;
            for (int i : new int[] {0, -1, 60, LEAST, MOST}) {
                Edges.keeps(Edges.FRESH, "item(" + t + ", " + i + ", 1)", -11, x -> x.item(tape, i, 1));
            }
        }
        Edges.keeps(Edges.RICH, "item(5, 0, 1)", -11, x -> x.item(5, 0, 1));
    }

    private static void p36_noSuchPlace() {
        int[] many = {3, 2, 2, 4, 2};
        for (int t = 0; t < 5; t++) {
            int tape = t;
            for (int i : new int[] {-1, many[t], 60, LEAST, MOST}) {
                Edges.keeps(Edges.RICH, "item(" + t + ", " + i + ", 1)", -13, x -> x.item(tape, i, 1));
            }
        }
        Edges.keeps(Edges.FULL, "item(0, 60, 1)", -13, x -> x.item(0, 60, 1));
    }

    private static void p36_firstAndLastPlace() {
        ShiftCharts x = new ShiftCharts();
        x.tape(0, LONGS, 60);
        Edges.due("item(0, 0, 7)", x.item(0, 0, 7), 1);
        Edges.due("item(0, 59, 8)", x.item(0, 59, 8), 1);
        Edges.due("peek(0, 0)", x.peek(0, 0), 7);
        Edges.due("peek(0, 59)", x.peek(0, 59), 8);
        for (int i = 1; i < 59; i++) Edges.due("peek(0, " + i + ")", x.peek(0, i), 0);
    }

    /** Each number is sent to a TAPE of a sort, and is what it becomes there. */
    private static void becomes(int sort, long... sentAndKept) {
        ShiftCharts x = new ShiftCharts();
        x.tape(3, sort, 2);
        for (int i = 0; i < sentAndKept.length; i += 2) {
            Edges.due("item(3, 1, " + sentAndKept[i] + ")", x.item(3, 1, sentAndKept[i]), 1);
            Edges.due("peek(3, 1) behind " + sentAndKept[i], x.peek(3, 1), sentAndKept[i + 1]);
            Edges.due("the other item", x.peek(3, 0), 0);
        }
    }

    private static void p36_bytesWrapAround() {
        becomes(BYTES, 127, 127, 128, -128, 255, -1, 256, 0, 257, 1, -128, -128, -129, 127, -256, 0,
            1L << 32, 0, Long.MAX_VALUE, -1, Long.MIN_VALUE, 0);
    }

    private static void p36_shortsWrapAround() {
        becomes(SHORTS, 32767, 32767, 32768, -32768, 65535, -1, 65536, 0, -32768, -32768, -32769, 32767,
            128, 128, 1L << 32, 0, Long.MAX_VALUE, -1, Long.MIN_VALUE, 0);
    }

    private static void p36_intsWrapAround() {
        becomes(INTS, MOST, MOST, MOST + 1L, LEAST, (1L << 32) - 1, -1, 1L << 32, 0, LEAST, LEAST, LEAST - 1L, MOST,
            32768, 32768, Long.MAX_VALUE, -1, Long.MIN_VALUE, 0);
    }

    private static void p36_longsStay() {
        becomes(LONGS, Long.MAX_VALUE, Long.MAX_VALUE, Long.MIN_VALUE, Long.MIN_VALUE, 1L << 32, 1L << 32, -1, -1,
            MOST + 1L, MOST + 1L, LEAST - 1L, LEAST - 1L);
    }

    private static void p36_booleansWhetherNot0() {
        becomes(BOOLEANS, 1, 1, 0, 0, 2, 1, 0, 0, -1, 1, 256, 1, 0, 0, 1L << 32, 1, Long.MIN_VALUE, 1,
            Long.MAX_VALUE, 1, 0, 0);
    }

    // ---- promise 37: peek

    private static void p37_noSuchTape() {
        for (int t : Edges.NO_TAPES) Edges.everywhere("peek(" + t + ", 0)", NO, x -> x.peek(t, 0));
    }

    private static void p37_nothing() {
        for (int t = 0; t < 6; t++) {
            int tape = t;
            for (int i : new int[] {0, -1, 59, LEAST, MOST}) {
                Edges.keeps(Edges.FRESH, "peek(" + t + ", " + i + ")", NO, x -> x.peek(tape, i));
            }
        }
    }

    private static void p37_noSuchPlace() {
        int[] many = {3, 2, 2, 4, 2};
        for (int t = 0; t < 5; t++) {
            int tape = t;
            for (int i : new int[] {-1, many[t], 60, LEAST, MOST}) {
                Edges.keeps(Edges.RICH, "peek(" + t + ", " + i + ")", NO, x -> x.peek(tape, i));
            }
        }
        Edges.keeps(Edges.FULL, "peek(0, 60)", NO, x -> x.peek(0, 60));
    }

    private static void p37_firstAndLastPlace() {
        ShiftCharts x = new ShiftCharts();
        tape(x, 0, SHORTS, 5, 0, -6);
        holds(x, 0, 5, 0, -6);
        Edges.keeps(Edges.FULL, "peek(0, 51)", 4, y -> y.peek(0, 51));
        Edges.keeps(Edges.FULL, "peek(0, 59)", 0, y -> y.peek(0, 59));
    }

    private static void p37_placesOfAShorterRow() {
        ShiftCharts x = new ShiftCharts();
        tape(x, 1, INTS, 1, 2, 3);
        x.tape(1, INTS, 1);
        holds(x, 1, 0);
        Edges.due("peek(1, 2)", x.peek(1, 2), NO);
    }

    private static void p37_asksOnly() {
        Edges.asks("peek(0, 0)", x -> x.peek(0, 0));
        Edges.asks("peek(3, 3)", x -> x.peek(3, 3));
    }

    // ---- promise 38: shift

    private static ShiftCharts rows() {
        ShiftCharts x = new ShiftCharts();
        tape(x, 0, INTS, 1, 2, 3, 4, 5);
        tape(x, 5, INTS, 6, 7, 8);
        tape(x, 2, LONGS, 9, 9, 9, 9, 9);
        x.tape(3, INTS, 0);
        return x;
    }

    private static void p38_noSuchTape() {
        for (int t : Edges.NO_TAPES) {
            Edges.everywhere("shift(" + t + ", 0, 0, 0, 0)", -1, x -> x.shift(t, 0, 0, 0, 0));
            Edges.everywhere("shift(0, 0, " + t + ", 0, 0)", -1, x -> x.shift(0, 0, t, 0, 0));
            Edges.keeps(() -> rows(), "shift(" + t + ", 0, " + t + ", 0, 1)", -1, x -> x.shift(t, 0, t, 0, 1));
        }
    }

    private static void p38_nothing() {
        Edges.keeps(() -> rows(), "from nothing", -11, x -> x.shift(4, 0, 0, 0, 1));
        Edges.keeps(() -> rows(), "to nothing", -11, x -> x.shift(0, 0, 4, 0, 1));
        Edges.keeps(() -> rows(), "from nothing to itself", -11, x -> x.shift(4, 0, 4, 0, 0));
        Edges.keeps(() -> rows(), "no items from nothing", -11, x -> x.shift(4, 0, 0, 0, 0));
        Edges.keeps(Edges.FRESH, "nothing anywhere", -11, x -> x.shift(0, 0, 5, 0, 0));
    }

    private static void p38_unlikeSorts() {
        for (int s = 0; s < 5; s++) {
            for (int o = 0; o < 5; o++) {
                ShiftCharts x = new ShiftCharts();
                x.tape(1, s, 2);
                x.tape(4, o, 2);
                x.item(1, 1, 1);
                Edges.due("sorts " + s + " and " + o, x.shift(1, 0, 4, 0, 2), s == o ? 2 : -12);
                holds(x, 4, 0, s == o ? 1 : 0);
            }
        }
        Edges.keeps(() -> rows(), "ints to longs", -12, x -> x.shift(0, 0, 2, 0, 1));
        Edges.keeps(() -> rows(), "longs to ints", -12, x -> x.shift(2, 0, 0, 0, 1));
        Edges.keeps(() -> rows(), "no items", -12, x -> x.shift(2, 0, 0, 0, 0));
    }

    private static void p38_below0() {
        for (int n : new int[] {-1, -5, LEAST}) Edges.keeps(() -> rows(), "n " + n, -13, x -> x.shift(0, 1, 5, 1, n));
        for (int i : new int[] {-1, -5, LEAST}) {
            for (int n = 0; n < 3; n++) {
                int many = n;
                Edges.keeps(() -> rows(), "i " + i + ", n " + n, -13, x -> x.shift(0, i, 5, 0, many));
                Edges.keeps(() -> rows(), "j " + i + ", n " + n, -13, x -> x.shift(0, 0, 5, i, many));
            }
        }
    }

    private static void p38_beyondTheEndOfTheOne() {
        Edges.keeps(() -> rows(), "i 4, n 2", -13, x -> x.shift(0, 4, 5, 0, 2));
        Edges.keeps(() -> rows(), "i 5, n 1", -13, x -> x.shift(0, 5, 5, 0, 1));
        Edges.keeps(() -> rows(), "i 6, n 0", -13, x -> x.shift(0, 6, 5, 0, 0));
        Edges.keeps(() -> rows(), "i 0, n 6", -13, x -> x.shift(0, 0, 0, 0, 6));
        Edges.keeps(() -> rows(), "of none, n 1", -13, x -> x.shift(3, 0, 0, 0, 1));
        Edges.keeps(() -> rows(), "of the shorter", -13, x -> x.shift(5, 0, 0, 0, 4));
        Edges.keeps(() -> rows(), "i 60", -13, x -> x.shift(0, 60, 5, 0, 1));
    }

    private static void p38_beyondTheEndOfTheOther() {
        Edges.keeps(() -> rows(), "j 1, n 3", -13, x -> x.shift(0, 0, 5, 1, 3));
        Edges.keeps(() -> rows(), "j 3, n 1", -13, x -> x.shift(0, 0, 5, 3, 1));
        Edges.keeps(() -> rows(), "j 4, n 0", -13, x -> x.shift(0, 0, 5, 4, 0));
        Edges.keeps(() -> rows(), "j 0, n 4", -13, x -> x.shift(0, 0, 5, 0, 4));
        Edges.keeps(() -> rows(), "to none, n 1", -13, x -> x.shift(0, 0, 3, 0, 1));
        Edges.keeps(() -> rows(), "up itself", -13, x -> x.shift(0, 0, 0, 1, 5));
    }

    private static void p38_farBeyond() {
        for (int far : new int[] {MOST, MOST - 1, 1 << 30, LEAST, LEAST + 1}) {
            Edges.keeps(() -> rows(), "n " + far, -13, x -> x.shift(0, 1, 5, 1, far));
            Edges.keeps(() -> rows(), "i " + far, -13, x -> x.shift(0, far, 5, 0, 1));
            Edges.keeps(() -> rows(), "j " + far, -13, x -> x.shift(0, 0, 5, far, 1));
            Edges.keeps(() -> rows(), "all " + far, -13, x -> x.shift(0, far, 5, far, far));
            Edges.keeps(() -> rows(), "i and n " + far, -13, x -> x.shift(0, far, 5, 0, far));
            Edges.keeps(() -> rows(), "j and n " + far, -13, x -> x.shift(0, 0, 5, far, far));
        }
    }

    private static void p38_upToBothEnds() {
        ShiftCharts x = rows();
        Edges.due("three up to both ends", x.shift(0, 2, 5, 0, 3), 3);
        holds(x, 5, 3, 4, 5);
        Edges.due("one at both ends", x.shift(0, 4, 5, 2, 1), 1);
        Edges.due("back to the end", x.shift(5, 0, 0, 2, 3), 3);
        holds(x, 0, 1, 2, 3, 4, 5);
    }

    private static void p38_noItems() {
        Edges.keeps(() -> rows(), "in the midst", 0, x -> x.shift(0, 1, 5, 1, 0));
        Edges.keeps(() -> rows(), "at both ends", 0, x -> x.shift(0, 5, 5, 3, 0));
        Edges.keeps(() -> rows(), "of rows of none", 0, x -> x.shift(3, 0, 3, 0, 0));
        Edges.keeps(() -> rows(), "to a row of none", 0, x -> x.shift(0, 5, 3, 0, 0));
    }

    private static void p38_asTheyAllWereBefore() {
        ShiftCharts up = rows();
        Edges.due("up by 1", up.shift(0, 0, 0, 1, 4), 4);
        holds(up, 0, 1, 1, 2, 3, 4);
        ShiftCharts down = rows();
        Edges.due("down by 1", down.shift(0, 1, 0, 0, 4), 4);
        holds(down, 0, 2, 3, 4, 5, 5);
        ShiftCharts far = rows();
        Edges.due("up by 2", far.shift(0, 0, 0, 2, 3), 3);
        holds(far, 0, 1, 2, 1, 2, 3);
        Edges.keeps(() -> rows(), "onto itself", 5, x -> x.shift(0, 0, 0, 0, 5));
    }

    private static void p38_sixtyItems() {
        ShiftCharts x = new ShiftCharts();
        x.tape(0, BYTES, 60);
        x.tape(1, BYTES, 60);
        for (int i = 0; i < 60; i++) x.item(0, i, i);
        Edges.due("sixty", x.shift(0, 0, 1, 0, 60), 60);
        for (int i = 0; i < 60; i++) Edges.due("peek(1, " + i + ")", x.peek(1, i), i);
        Edges.due("61", x.shift(0, 0, 1, 0, 61), -13);
        Edges.due("one from the end", x.shift(0, 59, 1, 0, 1), 1);
        Edges.due("peek(1, 0)", x.peek(1, 0), 59);
    }

    private static void p38_noneAheadOfNothing() {
        Edges.everywhere("shift(6, 0, 5, 0, 1)", -1, x -> x.shift(6, 0, 5, 0, 1));
        Edges.everywhere("shift(5, -1, -1, -1, -1)", -1, x -> x.shift(5, -1, -1, -1, -1));
    }

    private static void p38_nothingAheadOfCastAndPlace() {
        Edges.keeps(() -> rows(), "from nothing, i -1", -11, x -> x.shift(4, -1, 0, 0, 1));
        Edges.keeps(() -> rows(), "to nothing, n -1", -11, x -> x.shift(2, 0, 4, 0, -1));
    }

    private static void p38_castAheadOfPlace() {
        Edges.keeps(() -> rows(), "n -1", -12, x -> x.shift(0, 0, 2, 0, -1));
        Edges.keeps(() -> rows(), "n 99", -12, x -> x.shift(2, 0, 0, 0, 99));
    }
}
