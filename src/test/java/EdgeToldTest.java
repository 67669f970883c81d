/** Promises 6 to 12, boundary by boundary: what is told, BOUGHT, PROFIT, GOOD, what is carried on. */
public final class EdgeToldTest {
    private static final Edges E = new Edges("EdgeToldTest");
    /** WEIGHT 9, BASE 45, ALLOWED 45, SPENT 45. */
    private static final String NINE = Edges.flat(5, 0, 9);
    /** All that can be told at its greatest. */
    private static final String GREAT = "service a price 20 size 200 slope 0 cost 0 target 99;"
            .replace(" target", " quality 0 target");

    public static void main(String[] args) throws Exception {
        E.run(EdgeToldTest.class);
    }

    private static String great() {
        return GREAT + GREAT.replace(" a ", " b ") + GREAT.replace(" a ", " c ") + GREAT.replace(" a ", " d ");
    }

    // ---- 6

    @Says({"0 SERVICES, 1 the YEAR, 2 RATE, 3 WEIGHTS together, 4 BASE, 5 DUES, 6 ALLOWED, 7 SPENT,",
        "8 1 if the cap is KEPT, 0, 9 ACTS that can be undone, 10 OFF of PRICES, 11 of NEW prices."})
    static void p06_allThatIsAskedAbout() {
        int[] young = {2, 0, 105, 42, 198, 24, 183, 198, 0, 0, 6, 6};
        // PRICES 2, 3; WEIGHTS 16, 30; NEW prices 8, 9; CARRIED 38, 20 hundredths of 194; 130 and 38 less 6 is ALLOWED
        int[] rich = {2, 2, 107, 46, 122, 6, 162, 398, 0, 10, 2, 14};
        for (int i = 0; i < 12; i++) {
            BasketCap cap = Edges.young();
            E.fine(cap, "about(" + i + ")", cap.about(i), young[i]);
            BasketCap then = Edges.rich();
            E.fine(then, "about(" + i + ") of the rich one", then.about(i), rich[i]);
            int what = i;
            E.onlyAnswers("about(" + i + ")", c -> c.about(what));
        }
    }

    @Says("0 SERVICES")
    static void p06_oneToFourServices() {
        int[][] sizes = {{1}, {1, 1}, {1, 1, 1}, {1, 1, 1, 1}};
        for (int n = 1; n <= 4; n++) {
            BasketCap cap = Texts.of(Edges.flat(1, 0, sizes[n - 1]));
            E.fine(cap, "about(0)", cap.about(0), n);
        }
        BasketCap more = Texts.of(NINE + ";buyer p 1;buyer q 2");
        E.fine(more, "buyers don't count", more.about(0), 1);
    }

    @Says({"NONE: 1 (no TEXT, what).", "1 there is none such (no TEXT, SERVICE, BUYER, YEAR, IMAGE, what)"})
    static void p06_whatThereIsNot() {
        E.outside("about", 0, 11, (c, n) -> c.about(n), 1);
        E.withoutText("about(0)", c -> c.about(0));
        E.withoutText("about(12)", c -> c.about(12));
    }

    @Says("RATE: 100 more INDEX less X.")
    static void p06_rateFromFiftyTo150() {
        int[][] rows = {{0, 0, 100}, {50, 0, 150}, {0, 50, 50}, {50, 50, 100}, {1, 0, 101}, {0, 1, 99}};
        for (int[] r : rows) {
            BasketCap cap = Texts.of(NINE + ";index " + r[0] + ";x " + r[1]);
            E.fine(cap, "about(2)", cap.about(2), r[2]);
            E.fine(cap, "about(6)", cap.about(6), r[2] * 45 / 100);
        }
    }

    @Says({"WEIGHTS: BOUGHT at PRICES.", "BASE: PRICES times WEIGHTS, of all SERVICES together.",
        "SPENT: NEW prices times WEIGHTS, together"})
    static void p06_weightsBaseAndSpentLeastAndMost() {
        BasketCap most = Texts.of(great().substring(0, great().length() - 1));
        E.fine(most, "WEIGHTS", most.about(3), 800);
        E.fine(most, "BASE", most.about(4), 16000);
        E.fine(most, "SPENT", most.about(7), 16000);
        BasketCap none = Texts.of("service a price 20 size 180 slope 9 cost 0");
        E.fine(none, "nothing bought, WEIGHTS", none.about(3), 0);
        E.fine(none, "nothing bought, BASE", none.about(4), 0);
        E.fine(none, "nothing bought, ALLOWED", none.about(6), 0);
        E.fine(none, "nothing bought, SPENT", none.about(7), 0);
        E.fine(none, "nothing bought, KEPT", none.about(8), 1);
        BasketCap free = Texts.of(Edges.flat(0, 0, 200));
        E.fine(free, "price 0, WEIGHTS", free.about(3), 200);
        E.fine(free, "price 0, BASE", free.about(4), 0);
        // WEIGHTS are those of PRICES, not of NEW prices
        BasketCap lag = Texts.of("service a price 4 size 20 slope 2 cost 0;service b price 9 size 9 slope 1 cost 0");
        lag.price(0, 10);
        lag.price(1, 1);
        E.fine(lag, "WEIGHTS lag", lag.about(3), 12);
        E.fine(lag, "SPENT by them", lag.about(7), 120);
        lag.year(true);
        E.fine(lag, "WEIGHTS then", lag.about(3), 8);
    }

    @Says("DUES: of each SERVICE what QUALITY lacks to TARGET (0 if nothing) times DUE, together.")
    static void p06_duesOnlyOfWhatLacks() {
        int[][] rows = {{9, 10, 7, 7}, {10, 10, 7, 0}, {11, 10, 7, 0}, {0, 99, 99, 9801}, {99, 0, 99, 0}, {0, 99, 0, 0},
            {0, 1, 1, 1}};
        for (int[] r : rows) {
            BasketCap cap = Texts.of(NINE + " quality " + r[0] + " target " + r[1] + ";due " + r[2]);
            E.fine(cap, "about(5)", cap.about(5), r[3]);
        }
        BasketCap most = Texts.of(great() + "due 99");
        E.fine(most, "the most", most.about(5), 39204);
        // what one has above its target doesn't help another
        BasketCap two = Texts.of(NINE + " quality 50 target 0;" + NINE.replace(" a ", " b ") + " quality 0 target 3;due 2");
        E.fine(two, "each by itself", two.about(5), 6);
        two.quality(1, 2);
        E.fine(two, "one lacks", two.about(5), 2);
        two.become(3, 0);
        E.fine(two, "no due", two.about(5), 0);
    }

    @Says("ALLOWED: RATE times BASE by 100 (downwards), and CARRIED, less DUES; 0 at least.")
    static void p06_allowedDownwardsAndZeroAtLeast() {
        int[][] rates = {{0, 0, 45}, {1, 0, 45}, {2, 0, 45}, {3, 0, 46}, {0, 1, 44}, {0, 2, 44}, {0, 3, 43}, {50, 0, 67},
            {0, 50, 22}};
        for (int[] r : rates) {
            BasketCap cap = Texts.of(NINE + ";index " + r[0] + ";x " + r[1]);
            E.fine(cap, "about(6)", cap.about(6), r[2]);
        }
        for (int lacks = 40; lacks <= 50; lacks++) {
            BasketCap cap = Texts.of(NINE + " quality 0 target " + lacks + ";due 1");
            E.fine(cap, "less " + lacks, cap.about(6), lacks < 45 ? 45 - lacks : 0);
        }
        BasketCap most = Texts.of(great() + "index 50");
        E.fine(most, "the most of one year", most.about(6), 24000);
        most.become(3, 99);
        E.fine(most, "DUES above it", most.about(6), 0);
    }

    @Says("ALLOWED: RATE times BASE by 100 (downwards), and CARRIED, less DUES; 0 at least.")
    static void p06_allowedWithWhatIsCarried() {
        BasketCap more = Texts.of(NINE + ";carry 100");
        more.price(0, 4);
        more.year(false);
        E.fine(more, "36 and 9", more.about(6), 45);
        BasketCap less = Texts.of(NINE);
        less.price(0, 6);
        less.year(true);
        E.fine(less, "54 less 18", less.about(6), 36);
        less.price(0, 20);
        less.year(true);
        E.fine(less, "180 less 288", less.carried(0), -288);
        E.fine(less, "0 at least", less.about(6), 0);
        E.fine(less, "not kept", less.about(8), 0);
        E.fine(less, "LEFT", less.carried(1), -180);
    }

    @Says("the cap is KEPT, if that is ALLOWED or less.")
    static void p06_keptUpToAllowed() {
        BasketCap cap = Texts.of(Edges.flat(5, 0, 1, 1));
        int[][] rows = {{5, 5, 1}, {5, 6, 0}, {6, 5, 0}, {6, 4, 1}, {0, 10, 1}, {0, 11, 0}, {0, 0, 1}, {20, 20, 0}};
        for (int[] r : rows) {
            cap.price(0, r[0]);
            cap.price(1, r[1]);
            E.fine(cap, "about(8) at " + r[0] + ", " + r[1], cap.about(8), r[2]);
        }
    }

    @Says("9 ACTS that can be undone")
    static void p06_actsFromZeroToTen() {
        BasketCap cap = Edges.young();
        for (int i = 0; i <= 12; i++) {
            E.fine(cap, "about(9)", cap.about(9), Math.min(i, 10));
            cap.price(0, 1);
        }
    }

    @Says("OFF of PRICES: how far each is from COST (up, down), together.")
    static void p06_offUpAndDown() {
        int[][] rows = {{0, 0, 0}, {20, 20, 0}, {20, 0, 20}, {0, 20, 20}, {4, 5, 1}, {5, 4, 1}};
        for (int[] r : rows) {
            BasketCap cap = Texts.of(Edges.flat(r[0], r[1], 3));
            E.fine(cap, "about(10)", cap.about(10), r[2]);
            E.fine(cap, "about(11)", cap.about(11), r[2]);
        }
        BasketCap four = Texts.of(Edges.flat(20, 0, 1, 1, 1, 1));
        E.fine(four, "the most", four.about(10), 80);
        BasketCap both = Texts.of(Edges.flat(10, 10, 1, 1));
        both.price(0, 7);
        both.price(1, 14);
        E.fine(both, "of PRICES", both.about(10), 0);
        E.fine(both, "up and down together", both.about(11), 7);
    }

    @Says({"A YEAR (0 at first) has PRICES, those of the YEAR ahead (told at first), and NEW ones",
        "(as PRICES are, when it begins)"})
    static void p06_theYearAtFirst() {
        BasketCap cap = Edges.young();
        E.fine(cap, "about(1)", cap.about(1), 0);
        E.fine(cap, "CARRIED is 0 at first", cap.carried(0), 0);
        for (int s = 0; s < 2; s++) {
            E.fine(cap, "NEW as PRICES", cap.service(s, 1), cap.service(s, 0));
        }
        cap.price(0, 0);
        cap.year(false);
        E.fine(cap, "about(1) then", cap.about(1), 1);
        E.fine(cap, "PRICES are those of the year ahead", cap.service(0, 0), 0);
        E.fine(cap, "NEW as PRICES", cap.service(0, 1), 0);
        E.fine(cap, "NEW as PRICES", cap.service(1, 1), 5);
    }

    // ---- 7

    @Says("Of a SERVICE 0 PRICE, 1 NEW price, 2 SIZE, 3 SLOPE, 4 COST, 5 QUALITY, 6 TARGET, 7 WEIGHT.")
    static void p07_valuesLeastAndMost() {
        int[][] rows = {{0, 0, 0, 0, 0, 0}, {20, 200, 9, 20, 99, 99}, {7, 60, 8, 11, 12, 13}};
        int[] weight = {0, 20, 4};
        for (int i = 0; i < rows.length; i++) {
            int[] r = rows[i];
            BasketCap cap = Texts.of(NINE + ";service b price " + r[0] + " size " + r[1] + " slope " + r[2] + " cost "
                    + r[3] + " quality " + r[4] + " target " + r[5]);
            int[] want = {r[0], r[0], r[1], r[2], r[3], r[4], r[5], weight[i]};
            for (int what = 0; what < 8; what++) {
                E.fine(cap, "service(1, " + what + ")", cap.service(1, what), want[what]);
            }
            cap.price(1, 3);
            cap.quality(1, 1);
            E.fine(cap, "PRICE stays", cap.service(1, 0), r[0]);
            E.fine(cap, "NEW price", cap.service(1, 1), 3);
            E.fine(cap, "QUALITY", cap.service(1, 5), 1);
            E.fine(cap, "WEIGHT stays", cap.service(1, 7), weight[i]);
            E.fine(cap, "the other service", cap.service(0, 1), 5);
        }
        for (int what = 0; what < 8; what++) {
            int w = what;
            E.onlyAnswers("service(1, " + w + ")", c -> c.service(1, w));
        }
    }

    @Says("NONE: 1 (what, too).")
    static void p07_serviceOrWhatThereIsNot() {
        E.outside("service(.., 0)", 0, 1, (c, n) -> c.service(n, 0), 1);
        E.outside("service(0, ..)", 0, 7, (c, n) -> c.service(0, n), 1);
        E.refused("service(2, 8)", c -> c.service(2, 8), 1);
        E.withoutText("service(0, 0)", c -> c.service(0, 0));
        BasketCap four = Texts.of(Edges.flat(1, 0, 1, 2, 3, 4));
        for (int s = 0; s < 4; s++) {
            E.fine(four, "service(" + s + ", 2)", four.service(s, 2), s + 1);
        }
        E.refused("service(4, 2)", () -> Texts.of(Edges.flat(1, 0, 1, 2, 3, 4)), c -> c.service(4, 2), 1);
        // a text of fewer services leaves none of the earlier ones
        E.refused("service(1, 2) behind a text of one", EdgeToldTest::oneBehindFour, c -> c.service(1, 2), 1);
    }

    private static BasketCap oneBehindFour() {
        BasketCap cap = Texts.of(Edges.flat(1, 0, 1, 2, 3, 4));
        Texts.load(cap, NINE);
        return cap;
    }

    // ---- 8

    @Says("0 INDEX, 1 X, 2 CARRY, 3 DUE.")
    static void p08_rulesLeastAndMost() {
        int[][] rows = {{0, 0, 0, 0}, {50, 50, 100, 99}, {1, 2, 3, 4}};
        for (int[] r : rows) {
            BasketCap cap = Texts.of("index " + r[0] + ";x " + r[1] + ";carry " + r[2] + ";due " + r[3] + ";" + NINE);
            for (int i = 0; i < 4; i++) {
                E.fine(cap, "rule(" + i + ")", cap.rule(i), r[i]);
            }
        }
        for (int i = 0; i < 4; i++) {
            int what = i;
            E.onlyAnswers("rule(" + i + ")", c -> c.rule(what));
        }
    }

    @Says("NONE: 1 (no TEXT, what).")
    static void p08_ruleThereIsNot() {
        E.outside("rule", 0, 3, (c, n) -> c.rule(n), 1);
        E.withoutText("rule(0)", c -> c.rule(0));
    }

    // ---- 9

    @Says({"CARRIED (what 0), LEFT (1); may be below 0: trouble() tells NONE from -1.",
        "LEFT: ALLOWED less SPENT (may be below 0)."})
    static void p09_leftAboveAndBelowZero() {
        BasketCap cap = Texts.of(Edges.flat(5, 0, 1));
        for (int p = 0; p <= 20; p++) {
            cap.price(0, p);
            E.fine(cap, "carried(1)", cap.carried(1), 5 - p);
            E.fine(cap, "carried(0)", cap.carried(0), 0);
        }
        E.onlyAnswers("carried(0)", c -> c.carried(0));
        E.onlyAnswers("carried(1)", c -> c.carried(1));
    }

    @Says("NONE: 1 (no TEXT, what).")
    static void p09_whatThereIsNot() {
        E.outside("carried", 0, 1, (c, n) -> c.carried(n), 1);
        E.withoutText("carried(0)", c -> c.carried(0));
        E.withoutText("carried(1)", c -> c.carried(1));
    }

    @Says({"CARRIED becomes LEFT, but at most CARRY hundredths of ALLOWED (downwards)", "(CARRIED is 0 at first)"})
    static void p09_atMostCarryHundredths() {
        // ALLOWED 50: CARRY of it is 0, 0, 1, 5, 24, 25, 49, 50
        int[][] rows = {{0, 0}, {1, 0}, {2, 1}, {10, 5}, {49, 24}, {50, 25}, {99, 49}, {100, 50}};
        for (int[] r : rows) {
            for (int p = 0; p <= 10; p++) {
                BasketCap cap = Texts.of(Edges.flat(10, 0, 5) + ";carry " + r[0]);
                E.fine(cap, "at first", cap.carried(0), 0);
                cap.price(0, p);
                cap.year(false);
                E.fine(cap, "carry " + r[0] + " at " + p, cap.carried(0), Math.min(50 - 5 * p, r[1]));
            }
        }
    }

    @Says("CARRIED becomes LEFT, but at most CARRY hundredths of ALLOWED (downwards)")
    static void p09_theHundredthsOfThatYearsAllowed() {
        // LEFT one below, just, one above 10 hundredths (CARRY without a word) of ALLOWED 100
        for (int left = 9; left <= 11; left++) {
            BasketCap cap = Texts.of(Edges.flat(10, 0, 9, 1));
            cap.price(0, 9);
            cap.price(1, 19 - left);
            E.fine(cap, "LEFT", cap.carried(1), left);
            cap.year(false);
            E.fine(cap, "CARRIED", cap.carried(0), Math.min(left, 10));
        }
        BasketCap cap = Texts.of(Edges.flat(10, 0, 10));
        cap.price(0, 0);
        cap.become(2, 100);
        cap.year(false);
        E.fine(cap, "all of 100", cap.carried(0), 100);
        cap.become(2, 50);
        cap.year(false);
        E.fine(cap, "half of 0 and 100", cap.carried(0), 50);
    }

    @Says("if LEFT is below 0, twice LEFT")
    static void p09_twiceWhatWasTooMuch() {
        BasketCap cap = Texts.of(Edges.flat(5, 0, 1));
        cap.price(0, 6);
        E.fine(cap, "LEFT is -1", cap.carried(1), -1);
        cap.year(true);
        E.fine(cap, "CARRIED is -2", cap.carried(0), -2);
        E.fine(cap, "LEFT then", cap.carried(1), -2);
        BasketCap even = Texts.of(Edges.flat(5, 0, 1));
        even.year(false);
        E.fine(even, "LEFT 0 carries 0", even.carried(0), 0);
        BasketCap most = Texts.of(great() + "due 99");
        E.fine(most, "LEFT", most.carried(1), -16000);
        most.year(true);
        E.fine(most, "CARRIED", most.carried(0), -32000);
        most.year(true);
        E.fine(most, "CARRIED again", most.carried(0), -32000);
    }

    @Says("CARRIED becomes LEFT")
    static void p09_ninetyNineYearsOfLeavingAll() {
        BasketCap cap = Texts.of(great() + "index 50;carry 100");
        int carried = 0;
        for (int y = 1; y <= 99; y++) {
            cap.year(false);
            carried += 8000;
            E.fine(cap, "carried", cap.carried(0), carried);
        }
        E.fine(cap, "ALLOWED", cap.about(6), 24000 + 99 * 8000);
    }

    // ---- 10, 11, 12

    @Says({"BOUGHT at a price.", "II. BOUGHT of a SERVICE at a price p (0 .. 20): SIZE less SLOPE times p, 0 at least."})
    static void p10_boughtZeroAtLeast() {
        BasketCap cap = Texts.of("service a price 1 size 20 slope 9 cost 0;service b price 1 size 180 slope 9 cost 0;"
                + "service c price 1 size 200 slope 9 cost 0;service d price 1 size 0 slope 0 cost 0");
        int[] a = {20, 11, 2, 0, 0};
        for (int p = 0; p < 5; p++) {
            E.fine(cap, "bought(0, " + p + ")", cap.bought(0, p), a[p]);
        }
        E.fine(cap, "bought(0, 20)", cap.bought(0, 20), 0);
        E.fine(cap, "bought(1, 0)", cap.bought(1, 0), 180);
        E.fine(cap, "bought(1, 19)", cap.bought(1, 19), 9);
        E.fine(cap, "bought(1, 20)", cap.bought(1, 20), 0);
        E.fine(cap, "bought(2, 20)", cap.bought(2, 20), 20);
        E.fine(cap, "bought(3, 0)", cap.bought(3, 0), 0);
        E.onlyAnswers("bought(0, 5)", c -> c.bought(0, 5));
    }

    @Says({"NONE: 1; 2 (p).", "Of several the one that the call tells first."})
    static void p10_refusals() {
        E.outside("bought(.., 0)", 0, 1, (c, n) -> c.bought(n, 0), 1);
        E.outside("bought(1, ..)", 0, 20, (c, n) -> c.bought(1, n), 2);
        E.refused("bought(2, 21)", c -> c.bought(2, 21), 1);
        E.withoutText("bought(0, 21)", c -> c.bought(0, 21));
    }

    @Says({"PROFIT at a price (may be below 0, likewise).", "PROFIT at p: BOUGHT times (p less COST)."})
    static void p11_profitBelowAndAboveZero() {
        BasketCap cap = Texts.of("service a price 1 size 200 slope 0 cost 20;service b price 1 size 200 slope 0 cost 0;"
                + "service c price 1 size 1 slope 0 cost 5;service d price 1 size 18 slope 9 cost 3");
        E.fine(cap, "the least", cap.profit(0, 0), -4000);
        E.fine(cap, "at the cost", cap.profit(0, 20), 0);
        E.fine(cap, "the most", cap.profit(1, 20), 4000);
        E.fine(cap, "price 0", cap.profit(1, 0), 0);
        E.fine(cap, "-1", cap.profit(2, 4), -1);
        E.fine(cap, "1", cap.profit(2, 6), 1);
        E.fine(cap, "below the cost", cap.profit(3, 1), -18);
        E.fine(cap, "nothing bought", cap.profit(3, 2), 0);
        E.fine(cap, "nothing bought", cap.profit(3, 20), 0);
        E.onlyAnswers("profit(0, 0)", c -> c.profit(0, 0));
    }

    @Says("NONE: 1; 2.")
    static void p11_refusals() {
        E.outside("profit(.., 0)", 0, 1, (c, n) -> c.profit(n, 0), 1);
        E.outside("profit(1, ..)", 0, 20, (c, n) -> c.profit(1, n), 2);
        E.refused("profit(-1, -1)", c -> c.profit(-1, -1), 1);
        E.withoutText("profit(0, 21)", c -> c.profit(0, 21));
    }

    @Says({"GOOD at a price (may be below 0, likewise).",
        "GOOD at p: BOUGHT at each price from p + 1 up to 20, together, and PROFIT."})
    static void p12_goodAtTheEnds() {
        BasketCap cap = Texts.of("service a price 1 size 200 slope 0 cost 0;service b price 1 size 40 slope 1 cost 3;"
                + "service c price 1 size 1 slope 1 cost 1;service d price 1 size 200 slope 0 cost 20");
        E.fine(cap, "p 20: PROFIT alone", cap.good(0, 20), 4000);
        E.fine(cap, "p 19: one more price", cap.good(0, 19), 200 + 3800);
        E.fine(cap, "p 0: twenty more", cap.good(0, 0), 4000);
        E.fine(cap, "p 20 of b", cap.good(1, 20), 20 * 17);
        E.fine(cap, "p 19 of b", cap.good(1, 19), 20 + 21 * 16);
        E.fine(cap, "p 0 of b", cap.good(1, 0), 590 - 120);
        E.fine(cap, "-1", cap.good(2, 0), -1);
        E.fine(cap, "0", cap.good(2, 1), 0);
        E.fine(cap, "all for nothing", cap.good(3, 0), 0);
        E.onlyAnswers("good(0, 0)", c -> c.good(0, 0));
    }

    @Says("NONE: 1; 2.")
    static void p12_refusals() {
        E.outside("good(.., 0)", 0, 1, (c, n) -> c.good(n, 0), 1);
        E.outside("good(1, ..)", 0, 20, (c, n) -> c.good(1, n), 2);
        E.refused("good(2, -1)", c -> c.good(2, -1), 1);
        E.withoutText("good(0, 21)", c -> c.good(0, 21));
    }
}
