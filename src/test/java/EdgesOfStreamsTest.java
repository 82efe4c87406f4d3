/** The edges that the document names of promises 1 to 9: a new object, streams, the text. */
public final class EdgesOfStreamsTest {
    private static final long NO = Edges.NO;
    private static final int LEAST = Edges.LEAST, MOST = Edges.MOST;

    public static void main(String[] args) {
        Edges.run(EdgesOfStreamsTest.class, 1, 9);
    }

    // ---- promise 1: a new object

    private static void p01_hasNoValues() {
        ShiftCharts x = new ShiftCharts();
        for (int s = 0; s < 4; s++) {
            Edges.due("of(" + s + ", 4)", x.of(s, 4), 0);
            Edges.due("at(" + s + ", 0)", x.at(s, 0), NO);
            Edges.due("drop(" + s + ")", x.drop(s), -3);
        }
        Edges.due("count(0)", x.count(0), 0);
    }

    private static void p01_firstSettings() {
        ShiftCharts x = new ShiftCharts();
        long[] first = {0, 0, 1, 4, 0, 0};
        for (int s = 0; s < 4; s++) {
            for (int what = 0; what < 6; what++) Edges.due("of(" + s + ", " + what + ")", x.of(s, what), first[what]);
        }
    }

    private static void p01_firstWeights() {
        ShiftCharts x = new ShiftCharts();
        for (int step = -2; step <= 2; step++) Edges.due("weighs(" + step + ")", x.weighs(step), 1);
    }

    private static void p01_nothingIsTold() {
        ShiftCharts x = new ShiftCharts();
        for (int what = 1; what < 5; what++) Edges.due("count(" + what + ")", x.count(what), 0);
        Edges.due("looked()", x.looked(), -5);
        for (int s = 0; s < 4; s++) Edges.due("fits(" + s + ", 0)", x.fits(s, 0), 12);
        Edges.due("read()", x.read(), -10);
    }

    private static void p01_tapesHoldNothing() {
        ShiftCharts x = new ShiftCharts();
        for (int t = 0; t < 6; t++) {
            Edges.due("item(" + t + ", 0, 0)", x.item(t, 0, 0), -11);
            Edges.due("peek(" + t + ", 0)", x.peek(t, 0), NO);
        }
    }

    private static void p01_noImage() {
        Edges.due("undo()", new ShiftCharts().undo(), -3);
    }

    private static void p01_sharesNothingWithOthers() {
        ShiftCharts used = Edges.FULL.anew();
        ShiftCharts other = Edges.RICH.anew();
        ShiftCharts x = new ShiftCharts();
        for (int what = 0; what < 5; what++) Edges.due("count(" + what + ")", x.count(what), 0);
        Edges.due("weighs(2)", x.weighs(2), 1);
        Edges.due("item(0, 0, 0)", x.item(0, 0, 0), -11);
        Edges.due("the used one's VALUES", used.of(0, 4), 40);
        Edges.due("the other one's WEIGHT", other.weighs(2), 5);
    }

    private static void p01_constants() {
        Edges.due("NONE", ShiftCharts.NONE, -1);
        Edges.due("BAD", ShiftCharts.BAD, -2);
        Edges.due("STATE", ShiftCharts.STATE, -3);
        Edges.due("FULL", ShiftCharts.FULL, -4);
        Edges.due("NO", ShiftCharts.NO, Long.MIN_VALUE);
    }

    private static void p01_the512thCallIsAnsweredToo() {
        ShiftCharts x = new ShiftCharts();
        for (int i = 0; i < 255; i++) {
            Edges.due("value", x.value(i % 4, 1), 1);
            Edges.due("drop", x.drop(i % 4), 0);
        }
        Edges.due("the 511th", x.value(3, -20), 1);
        Edges.due("the 512th", x.at(3, 0), -20);
    }

    // ---- promise 2: value

    private static void p02_noSuchStream() {
        for (int s : Edges.NO_STREAMS) Edges.everywhere("value(" + s + ", 0)", -1, x -> x.value(s, 0));
    }

    private static void p02_firstAndLastStream() {
        ShiftCharts x = new ShiftCharts();
        for (int s = 0; s < 4; s++) {
            Edges.due("value(" + s + ", 1)", x.value(s, s), 1);
            Edges.due("at(" + s + ", 0)", x.at(s, 0), s);
            Edges.due("all", x.count(0), s + 1);
        }
    }

    private static void p02_valuesOutside() {
        for (int v : new int[] {-21, 21, LEAST, MOST}) {
            for (int s = 0; s < 4; s += 3) {
                int stream = s;
                Edges.everywhere("value(" + s + ", " + v + ")", -2, x -> x.value(stream, v));
            }
        }
    }

    private static void p02_valuesInside() {
        ShiftCharts x = new ShiftCharts();
        int[] values = {-20, 20, -19, 19, 0};
        for (int i = 0; i < 5; i++) {
            Edges.due("value(2, " + values[i] + ")", x.value(2, values[i]), i + 1);
            Edges.due("at(2, " + i + ")", x.at(2, i), values[i]);
        }
    }

    private static void p02_fortyAtMost() {
        for (int s = 0; s < 4; s++) {
            ShiftCharts x = new ShiftCharts();
            for (int i = 1; i <= 40; i++) Edges.due("the " + i + "th", x.value(s, i - 20), i);
            Edges.due("the 41st", x.value(s, 0), -4);
            Edges.due("still", x.of(s, 4), 40);
            Edges.due("the last", x.at(s, 39), 20);
            Edges.due("another's", x.value((s + 1) % 4, 0), 1);
        }
        Edges.keeps(Edges.FULL, "value(0, 0)", -4, x -> x.value(0, 0));
    }

    private static void p02_roomBehindDrop() {
        ShiftCharts x = Edges.many(1, 40, 3);
        Edges.due("drop", x.drop(1), 39);
        Edges.due("value", x.value(1, -4), 40);
        Edges.due("at", x.at(1, 39), -4);
        Edges.due("FULL", x.value(1, -4), -4);
    }

    private static void p02_noneAheadOfBad() {
        Edges.everywhere("value(4, 21)", -1, x -> x.value(4, 21));
        Edges.everywhere("value(-1, -21)", -1, x -> x.value(-1, -21));
    }

    private static void p02_badAheadOfFull() {
        Edges.keeps(Edges.FULL, "value(0, 21)", -2, x -> x.value(0, 21));
        Edges.keeps(Edges.FULL, "value(0, -21)", -2, x -> x.value(0, -21));
    }

    // ---- promise 3: drop

    private static void p03_noSuchStream() {
        for (int s : Edges.NO_STREAMS) Edges.everywhere("drop(" + s + ")", -1, x -> x.drop(s));
    }

    private static void p03_hasNone() {
        for (int s = 0; s < 4; s++) {
            int stream = s;
            Edges.keeps(Edges.FRESH, "drop(" + s + ")", -3, x -> x.drop(stream));
            Edges.keeps(() -> {
                ShiftCharts x = new ShiftCharts();
                Edges.set(x, stream, 4, -3, 5, 9);
                return x;
            }, "drop(" + s + ") of one that is set up", -3, x -> x.drop(stream));
        }
        Edges.keeps(Edges.FULL, "drop(1)", -3, x -> x.drop(1));
    }

    private static void p03_theLastOneGoes() {
        for (int s = 0; s < 4; s++) {
            ShiftCharts x = Edges.with(s, 4, -5);
            Edges.due("drop to one", x.drop(s), 1);
            Edges.due("the first stays", x.at(s, 0), 4);
            Edges.due("the last is gone", x.at(s, 1), NO);
            Edges.due("drop to none", x.drop(s), 0);
            Edges.due("STATE", x.drop(s), -3);
            Edges.due("place 0 again", x.value(s, 9), 1);
            Edges.due("the new one", x.at(s, 0), 9);
        }
    }

    private static void p03_ofForty() {
        ShiftCharts x = Edges.many(0, 40, 1);
        for (int left = 39; left >= 0; left--) Edges.due("drop", x.drop(0), left);
        Edges.due("STATE", x.drop(0), -3);
    }

    private static void p03_othersStay() {
        ShiftCharts x = Edges.with(1, 1);
        Edges.come(x, 2, 2, 3);
        Edges.due("drop(2)", x.drop(2), 1);
        Edges.due("the other's", x.at(1, 0), 1);
        Edges.due("STREAM 0 has none", x.drop(0), -3);
    }

    // ---- promise 4: set

    private static void p04_noSuchStream() {
        for (int s : Edges.NO_STREAMS) {
            for (int w = 0; w < 4; w++) {
                int what = w;
                Edges.everywhere("set(" + s + ", " + w + ", 1)", NO, x -> x.set(s, what, 1));
            }
        }
    }

    private static void p04_noSuchWhat() {
        for (int what : new int[] {-1, 4, 5, 6, LEAST, MOST}) {
            for (int v : new int[] {0, 1, 4}) {
                Edges.everywhere("set(0, " + what + ", " + v + ")", NO, x -> x.set(0, what, v));
                Edges.everywhere("set(3, " + what + ", " + v + ")", NO, x -> x.set(3, what, v));
            }
        }
    }

    private static void outside(int what, int low, int high) {
        for (int v : new int[] {low - 1, high + 1, LEAST, MOST}) {
            for (int s = 0; s < 4; s++) {
                int stream = s;
                Edges.everywhere("set(" + s + ", " + what + ", " + v + ")", NO, x -> x.set(stream, what, v));
            }
        }
    }

    private static void inside(int what, int low, int high, int first) {
        for (int s = 0; s < 4; s++) {
            ShiftCharts x = new ShiftCharts();
            long was = first;
            for (int v = low; v <= high; v++) {
                Edges.due("set(" + s + ", " + what + ", " + v + ")", x.set(s, what, v), was);
                Edges.due("of(" + s + ", " + what + ")", x.of(s, what), v);
                was = v;
            }
            Edges.due("back to the least", x.set(s, what, low), high);
            Edges.due("the least", x.of(s, what), low);
        }
    }

    private static void p04_kinds() { inside(0, 0, 4, 0); }

    private static void p04_noSuchKind() { outside(0, 0, 4); }

    private static void p04_targets() { inside(1, -20, 20, 0); }

    private static void p04_noSuchTarget() { outside(1, -20, 20); }

    private static void p04_slacks() { inside(2, 0, 5, 1); }

    private static void p04_noSuchSlack() { outside(2, 0, 5); }

    private static void p04_limits() { inside(3, 1, 12, 4); }

    private static void p04_noSuchLimit() { outside(3, 1, 12); }

    private static void p04_eachForItself() {
        for (int s = 0; s < 4; s++) {
            ShiftCharts x = new ShiftCharts();
            Edges.set(x, s, 4, -20, 5, 12);
            for (int o = 0; o < 4; o++) {
                Edges.due("KIND of " + o, x.of(o, 0), o == s ? 4 : 0);
                Edges.due("TARGET of " + o, x.of(o, 1), o == s ? -20 : 0);
                Edges.due("SLACK of " + o, x.of(o, 2), o == s ? 5 : 1);
                Edges.due("LIMIT of " + o, x.of(o, 3), o == s ? 12 : 4);
            }
        }
    }

    // ---- promise 5: of

    private static void p05_noSuchStream() {
        for (int s : Edges.NO_STREAMS) {
            for (int w = 0; w < 6; w++) {
                int what = w;
                Edges.everywhere("of(" + s + ", " + w + ")", NO, x -> x.of(s, what));
            }
        }
    }

    private static void p05_noSuchWhat() {
        for (int what : new int[] {-1, 6, LEAST, MOST}) {
            for (int s = 0; s < 4; s += 3) {
                int stream = s;
                Edges.everywhere("of(" + s + ", " + what + ")", NO, x -> x.of(stream, what));
            }
        }
    }

    private static void p05_howManyValues() {
        ShiftCharts x = new ShiftCharts();
        for (int i = 0; i < 40; i++) {
            Edges.due("of(3, 4)", x.of(3, 4), i);
            x.value(3, 0);
        }
        Edges.due("forty", x.of(3, 4), 40);
        x.value(3, 0);
        Edges.due("behind FULL", x.of(3, 4), 40);
    }

    private static void p05_startIsHalfOfLimitCut() {
        long[] half = {0, 1, 1, 2, 2, 3, 3, 4, 4, 5, 5, 6};
        for (int kind = 0; kind < 5; kind++) {
            ShiftCharts x = new ShiftCharts();
            x.set(1, 0, kind);
            for (int limit = 1; limit <= 12; limit++) {
                x.set(1, 3, limit);
                long due = kind == 1 || kind == 3 ? half[limit - 1] : 0;
                Edges.due("START of KIND " + kind + " by LIMIT " + limit, x.of(1, 5), due);
            }
        }
    }

    private static void p05_asksOnly() {
        for (int w = 0; w < 6; w++) {
            int what = w;
            Edges.asks("of(1, " + w + ")", x -> x.of(1, what));
        }
    }

    // ---- promise 6: at

    private static void p06_noSuchStream() {
        for (int s : Edges.NO_STREAMS) Edges.everywhere("at(" + s + ", 0)", NO, x -> x.at(s, 0));
    }

    private static void p06_noSuchPlace() {
        for (int s = 0; s < 4; s++) {
            int stream = s;
            for (int place : new int[] {-1, 40, LEAST, MOST}) {
                Edges.everywhere("at(" + s + ", " + place + ")", NO, x -> x.at(stream, place));
            }
            Edges.keeps(Edges.FRESH, "at(" + s + ", 0)", NO, x -> x.at(stream, 0));
        }
    }

    private static void p06_firstAndLastPlace() {
        ShiftCharts x = new ShiftCharts();
        for (int i = 0; i < 40; i++) {
            Edges.due("ahead of it", x.at(3, i), NO);
            x.value(3, i - 20);
            Edges.due("place 0", x.at(3, 0), -20);
            Edges.due("the last place", x.at(3, i), i - 20);
        }
        Edges.due("behind the fortieth", x.at(3, 40), NO);
    }

    private static void p06_aPlaceThatWent() {
        ShiftCharts x = Edges.with(2, 7, 8);
        x.drop(2);
        Edges.due("the one that went", x.at(2, 1), NO);
        Edges.due("the one that is left", x.at(2, 0), 7);
    }

    private static void p06_asksOnly() {
        Edges.asks("at(0, 0)", x -> x.at(0, 0));
        Edges.asks("at(0, 39)", x -> x.at(0, 39));
    }

    // ---- promise 7: off

    private static void p07_noSuchStream() {
        for (int s : Edges.NO_STREAMS) Edges.everywhere("off(" + s + ", 0)", NO, x -> x.off(s, 0));
    }

    private static void p07_noSuchPlace() {
        for (int s = 0; s < 4; s++) {
            int stream = s;
            for (int place : new int[] {-1, 40, LEAST, MOST}) {
                Edges.everywhere("off(" + s + ", " + place + ")", NO, x -> x.off(stream, place));
            }
            Edges.keeps(Edges.FRESH, "off(" + s + ", 0)", NO, x -> x.off(stream, 0));
        }
    }

    private static void p07_firstAndLastPlace() {
        ShiftCharts x = new ShiftCharts();
        x.set(0, 1, 1);
        for (int i = 0; i < 40; i++) {
            Edges.due("ahead of it", x.off(0, i), NO);
            x.value(0, i - 20);
            Edges.due("the last place", x.off(0, i), i - 21);
        }
        Edges.due("place 0", x.off(0, 0), -21);
        Edges.due("behind the fortieth", x.off(0, 40), NO);
    }

    private static void p07_heldByCappedAndBoth() {
        ShiftCharts x = Edges.with(2, 4, 5, 6, 7, 20, -4, -5, -6, -7, -20, 0);
        long[] held = {4, 5, 5, 5, 5, -4, -5, -5, -5, -5, 0};
        for (int kind = 2; kind <= 3; kind++) {
            x.set(2, 0, kind);
            for (int i = 0; i < 11; i++) Edges.due("KIND " + kind + ", place " + i, x.off(2, i), held[i]);
        }
    }

    private static void p07_notHeldByTheOthers() {
        ShiftCharts x = Edges.with(2, 5, 6, 20, -5, -6, -20);
        long[] off = {5, 6, 20, -5, -6, -20};
        for (int kind : new int[] {0, 1, 4}) {
            x.set(2, 0, kind);
            for (int i = 0; i < 6; i++) Edges.due("KIND " + kind + ", place " + i, x.off(2, i), off[i]);
        }
    }

    private static void p07_heldBehindTheTarget() {
        ShiftCharts x = Edges.with(0, 20, 15, 14, 16, -20);
        x.set(0, 0, 2);
        x.set(0, 1, 10);
        long[] held = {5, 5, 4, 5, -5};
        for (int i = 0; i < 5; i++) Edges.due("place " + i, x.off(0, i), held[i]);
    }

    private static void p07_theGreatest() {
        ShiftCharts x = Edges.with(0, 20, -20);
        x.set(0, 1, -20);
        Edges.due("20 less -20", x.off(0, 0), 40);
        x.set(0, 1, 20);
        Edges.due("-20 less 20", x.off(0, 1), -40);
    }

    private static void p07_asksOnly() {
        Edges.asks("off(0, 0)", x -> x.off(0, 0));
        Edges.asks("off(1, 3)", x -> x.off(1, 3));
    }

    // ---- promise 8: feed

    private static void p08_noSigns() {
        for (int sign : new int[] {-1, 128, -128, 255, 256, LEAST, MOST}) {
            Edges.everywhere("feed(" + sign + ")", -2, x -> x.feed(sign));
        }
    }

    private static void p08_firstAndLastSign() {
        ShiftCharts x = new ShiftCharts();
        Edges.due("feed(0)", x.feed(0), 1);
        Edges.due("feed(127)", x.feed(127), 2);
        Edges.due("count(4)", x.count(4), 2);
    }

    private static void p08_aHundredAtMost() {
        ShiftCharts x = new ShiftCharts();
        for (int i = 1; i <= 100; i++) Edges.due("the " + i + "th", x.feed('v'), i);
        Edges.due("the 101st", x.feed('v'), -4);
        Edges.due("still", x.count(4), 100);
        Edges.keeps(Edges.FULL, "feed('v')", -4, y -> y.feed('v'));
    }

    private static void p08_badAheadOfFull() {
        Edges.keeps(Edges.FULL, "feed(128)", -2, x -> x.feed(128));
        Edges.keeps(Edges.FULL, "feed(-1)", -2, x -> x.feed(-1));
    }

    private static void p08_roomBehindRead() {
        ShiftCharts x = Edges.FULL.anew();
        x.read();
        Edges.due("the first again", x.feed('v'), 1);
        Edges.feed(x, "19");
        Edges.due("as fed", x.read(), 1);
        Edges.due("its VALUE", x.at(1, 0), 9);
    }

    // ---- promise 9: read

    private static void p09_emptyText() {
        Edges.keeps(Edges.FRESH, "read()", -10, x -> x.read());
    }

    private static void p09_emptyBehindSetUp() {
        ShiftCharts x = new ShiftCharts();
        Edges.due("done", Edges.read(x, "v01"), 1);
        Edges.due("count(4)", x.count(4), 0);
        Edges.due("again", x.read(), -10);
        Edges.due("once alone", x.of(0, 4), 1);
    }

    private static void p09_emptyBehindFault() {
        ShiftCharts x = new ShiftCharts();
        Edges.due("FAULT", Edges.read(x, "v01,"), -13);
        Edges.due("count(4)", x.count(4), 0);
        Edges.due("again", x.read(), -10);
    }

    private static void p09_oneToTwelveClauses() {
        StringBuilder text = new StringBuilder("v01");
        for (int n = 1; n <= 12; n++) {
            ShiftCharts x = new ShiftCharts();
            Edges.due(n + " CLAUSES", Edges.read(x, text.toString()), n);
            Edges.due("VALUES", x.of(0, 4), n);
            text.append(";v01");
        }
    }

    private static void p09_noThirteenth() {
        String twelve = "v01;v01;v01;v01;v01;v01;v01;v01;v01;v01;v01;v01";
        ShiftCharts x = new ShiftCharts();
        Edges.due("a thirteenth", Edges.read(x, twelve + ";v01"), -57);
        Edges.due("its ; alone", Edges.read(x, twelve + ";"), -57);
        Edges.due("nothing done", x.count(0), 0);
    }

    private static void p09_longestSetUp() {
        String five = "v0-01;v0-02;v0-03;v0-04;v0-05;v0-06;v0-07;v0-08;v0-09;v0-10;v0-11;v0-20";
        ShiftCharts x = new ShiftCharts();
        Edges.due("71 bytes", Edges.read(x, five), 12);
        Edges.due("the last VALUE", x.at(0, 11), -20);
        Edges.due("72 bytes", Edges.read(x, five + "0"), -81);
        for (int i = 0; i < 100; i++) x.feed(i < 71 ? five.charAt(i) : 'v');
        Edges.due("100 bytes", x.read(), -81);
        Edges.due("nothing done by these", x.of(0, 4), 12);
    }

    /**
     * Each of the 128 signs behind a text: with some a CLAUSE is done, with some it is refused, with some the text
     * ends too early; each other one is the FAULT.
     */
    private static void behind(String text, String done, String refused, String tooEarly) {
        for (int sign = 0; sign < 128; sign++) {
            ShiftCharts x = new ShiftCharts();
            Edges.feed(x, text);
            x.feed(sign);
            long due = -10 - text.length();
            if (tooEarly.indexOf(sign) >= 0) due = -11 - text.length();
            if (refused.indexOf(sign) >= 0) due = 0;
            if (done.indexOf(sign) >= 0) due = 1;
            Edges.due(text + " and sign " + sign, x.read(), due);
            Edges.due("VALUES by " + text + " and sign " + sign, x.count(0), due == 1 && text.startsWith("v") ? 1 : 0);
        }
    }

    private static void p09_lettersBegin() { behind("", "", "", "vtksld"); }

    private static void p09_aStreamIsADigit() {
        for (String letter : new String[] {"v", "t", "k", "s", "l", "d"}) behind(letter, "", "", "0123456789");
    }

    private static void p09_aKindASlackAWeightIsADigit() {
        behind("k0", "01234", "56789", "");
        behind("s0", "012345", "6789", "");
        behind("d0", "012345", "6789", "");
    }

    private static void p09_aNumberBegins() {
        behind("v0", "0123456789", "", "-");
        behind("t0", "0123456789", "", "-");
        behind("l0", "123456789", "0", "-");
    }

    private static void p09_aDigitBehindTheMinus() {
        behind("v0-", "0123456789", "", "");
        behind("t0-", "0123456789", "", "");
        behind("l0-", "", "0123456789", "");
    }

    private static void p09_twoDigitsAtMost() {
        behind("v01", "0123456789", "", ";");
        behind("v0-1", "0123456789", "", ";");
        behind("v02", "0", "123456789", ";");
        behind("t0-2", "0", "123456789", ";");
        behind("l01", "012", "3456789", ";");
        for (String text : new String[] {"v010", "v0-10", "t010", "t0-10", "l012", "l0-12"}) behind(text, "", "", ";");
    }

    private static void p09_oneDigitAtMost() {
        for (String text : new String[] {"k01", "s01", "d01", "k40", "s09"}) behind(text, "", "", ";");
    }

    private static void p09_aClauseBehindTheSemicolon() {
        for (String text : new String[] {"v01;", "v0-12;", "k04;", "d99;"}) behind(text, "", "", "vtksld");
    }

    private static void p09_endsTooEarly() {
        String[] texts = {"v", "v0", "v0-", "v01;", "t", "t0", "t0-", "k", "k0", "s", "s0", "l", "l0", "l0-", "d", "d0",
            "d01;", "v01;v", "v01;v0-20;k0"};
        for (String text : texts) {
            ShiftCharts x = new ShiftCharts();
            Edges.due(text, Edges.read(x, text), -10 - text.length());
            Edges.due("nothing done by " + text, x.count(0), 0);
        }
    }

    private static void p09_noBlanks() {
        String[] texts = {" v01", "v 01", "v0 1", "v01 ", "v01 ;v01", "v01; v01", "v0- 1", "v01;v01 "};
        int[] faults = {0, 1, 2, 3, 3, 4, 3, 7};
        for (int i = 0; i < texts.length; i++) {
            Edges.due(texts[i], Edges.read(new ShiftCharts(), texts[i]), -10 - faults[i]);
        }
    }

    private static void p09_theFirstFault() {
        String[] texts = {"xx", "v0xx", "v01;x;x", "v01;;x", "v01;v0999;v01", "v01;k033;x"};
        int[] faults = {0, 2, 4, 4, 8, 7};
        for (int i = 0; i < texts.length; i++) {
            Edges.due(texts[i], Edges.read(new ShiftCharts(), texts[i]), -10 - faults[i]);
        }
    }

    private static void p09_byAFaultNothingIsDone() {
        String[] texts = {"v01;t12;k23;s34;l05;d45;x", "v01;t12;k23;s34;l05;d45;", "v01;t12;k23;s34;l05;d455"};
        for (String text : texts) {
            Edges.keeps(Edges.FRESH, text, -10 - (text.endsWith(";x") ? 24 : text.endsWith(";") ? 24 : 23),
                x -> Edges.read(x, text));
        }
    }

    private static void doneOrNot(String text, long done) {
        Edges.due(text, Edges.read(new ShiftCharts(), text), done);
    }

    /** Each CLAUSE is told rightly, but is refused: none is done, and all stays as it was. */
    private static void refused(String... clauses) {
        for (String clause : clauses) {
            Edges.keeps(Edges.FRESH, clause, 0, x -> Edges.read(x, clause));
            doneOrNot("v01;" + clause + ";v01", 2);
        }
    }

    private static void p09_values() {
        for (String clause : new String[] {"v020", "v0-20", "v320", "v3-20", "v00", "v0-0", "v000", "v0-00"}) {
            doneOrNot(clause, 1);
        }
        refused("v021", "v0-21", "v099", "v0-99", "v40", "v90", "v9-20");
    }

    private static void p09_targets() {
        ShiftCharts x = new ShiftCharts();
        Edges.due("20, -20", Edges.read(x, "t020;t3-20"), 2);
        Edges.due("TARGET of 0", x.of(0, 1), 20);
        Edges.due("TARGET of 3", x.of(3, 1), -20);
        refused("t021", "t0-21", "t099", "t0-99", "t40", "t90");
    }

    private static void p09_kinds() {
        ShiftCharts x = new ShiftCharts();
        Edges.due("4, 0", Edges.read(x, "k04;k34;k30"), 3);
        Edges.due("KIND of 0", x.of(0, 0), 4);
        Edges.due("KIND of 3", x.of(3, 0), 0);
        refused("k05", "k09", "k40", "k90");
    }

    private static void p09_slacks() {
        ShiftCharts x = new ShiftCharts();
        Edges.due("5, 0", Edges.read(x, "s05;s30"), 2);
        Edges.due("SLACK of 0", x.of(0, 2), 5);
        Edges.due("SLACK of 3", x.of(3, 2), 0);
        refused("s06", "s09", "s40", "s90");
    }

    private static void p09_limits() {
        ShiftCharts x = new ShiftCharts();
        Edges.due("1, 12, 01", Edges.read(x, "l01;l312;l201"), 3);
        Edges.due("LIMIT of 0", x.of(0, 3), 1);
        Edges.due("LIMIT of 3", x.of(3, 3), 12);
        Edges.due("LIMIT of 2", x.of(2, 3), 1);
        refused("l00", "l013", "l0-1", "l0-0", "l099", "l0-12", "l44", "l94");
    }

    private static void p09_weights() {
        ShiftCharts x = new ShiftCharts();
        Edges.due("5, 0", Edges.read(x, "d05;d40"), 2);
        Edges.due("WEIGHT of -2", x.weighs(-2), 5);
        Edges.due("WEIGHT of 2", x.weighs(2), 0);
        Edges.due("a WEIGHT that was 0 is done too", Edges.read(x, "d40;d41"), 2);
        refused("d06", "d09", "d50", "d91");
    }

    private static void p09_aWasOfZeroIsDone() {
        doneOrNot("t01;t0-1;k01;k00;s00;s01", 6);
    }

    private static void p09_roomEndsOnTheWay() {
        ShiftCharts x = Edges.many(2, 38, 0);
        Edges.due("two have room", Edges.read(x, "v21;v22;v23;v24"), 2);
        Edges.due("how many", x.of(2, 4), 40);
        Edges.due("the first two", x.at(2, 39), 2);
        ShiftCharts y = Edges.many(2, 40, 0);
        Edges.due("none has room", Edges.read(y, "v21;k21"), 1);
        Edges.due("the other is done", y.of(2, 0), 1);
    }

    private static void p09_oneBehindTheOther() {
        ShiftCharts x = new ShiftCharts();
        Edges.due("done", Edges.read(x, "v07;t03;v0-8;t0-4;l09;l010"), 6);
        Edges.due("place 0", x.at(0, 0), 7);
        Edges.due("place 1", x.at(0, 1), -8);
        Edges.due("TARGET", x.of(0, 1), -4);
        Edges.due("LIMIT", x.of(0, 3), 10);
    }

    private static void p09_asFarAsOtherCalls() {
        ShiftCharts x = Edges.RICH.anew();
        Edges.due("all of it", x.read(), 5);
        Edges.due("VALUE", x.at(2, 1), 5);
        Edges.due("KIND", x.of(1, 0), 4);
        Edges.due("WEIGHT of 0", x.weighs(0), 3);
        Edges.due("SLACK", x.of(3, 2), 0);
        Edges.due("LIMIT, refused", x.of(1, 3), 7);
        Edges.due("TARGET", x.of(2, 1), -11);
    }
}
