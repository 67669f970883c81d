/** Promises 23 to 38, boundary by boundary: buyers, GENTLE, STEADY, levels, TRADE, what is written. */
public final class EdgeBuyersTest {
    private static final Edges E = new Edges("EdgeBuyersTest");
    /** ALLOWED 10, each WEIGHT 1. */
    private static final String TEN = Edges.flat(5, 0, 1, 1);
    private static final String FOUR = Edges.flat(5, 0, 1, 1, 1, 1);
    /** A buyer of each service. */
    private static final String EACH = FOUR + ";buyer p 1,0,0,0;buyer q 0,1,0,0;buyer r 0,0,1,0;buyer s 0,0,0,1";

    public static void main(String[] args) throws Exception {
        E.run(EdgeBuyersTest.class);
    }

    private static BasketCap with(String text, int... fresh) {
        BasketCap cap = Texts.of(text);
        for (int s = 0; s < fresh.length; s++) {
            cap.price(s, fresh[s]);
        }
        return cap;
    }

    private static BasketCap atYear99(String text) {
        BasketCap cap = Texts.of(text);
        for (int y = 0; y < 99; y++) {
            cap.year(true);
        }
        return cap;
    }

    // ---- 23, 24

    @Says({"Of a BUYER 0 BURDEN at PRICES, 1 at NEW prices, 2 UNITS together.",
        "BURDEN of a BUYER at prices: UNITS times these, together."})
    static void p23_burdensLeastAndMost() {
        BasketCap cap = with(Edges.flat(20, 0, 1, 1, 1, 1) + ";buyer p 99,99,99,99;buyer q 0,0,0,0;buyer r 1,2,3,4", 0, 1, 2, 3);
        int[][] want = {{7920, 594, 396}, {0, 0, 0}, {200, 20, 10}};
        for (int b = 0; b < 3; b++) {
            for (int what = 0; what < 3; what++) {
                E.fine(cap, "buyer(" + b + ", " + what + ")", cap.buyer(b, what), want[b][what]);
            }
        }
        cap.year(false);
        E.fine(cap, "PRICES of the next year", cap.buyer(2, 0), 20);
        for (int what = 0; what < 3; what++) {
            int w = what;
            E.onlyAnswers("buyer(1, " + w + ")", c -> c.buyer(1, w));
        }
    }

    @Says("NONE: 1 (what, too).")
    static void p23_refusals() {
        E.outside("buyer(.., 0)", 0, 1, (c, n) -> c.buyer(n, 0), 1);
        E.outside("buyer(0, ..)", 0, 2, (c, n) -> c.buyer(0, n), 1);
        E.withoutText("buyer(0, 0)", c -> c.buyer(0, 0));
        E.refused("buyer(0, 0) without a buyer", () -> Texts.of(FOUR), c -> c.buyer(0, 0), 1);
        E.refused("buyer(4, 0) of four", () -> Texts.of(EACH), c -> c.buyer(4, 0), 1);
        BasketCap four = Texts.of(EACH);
        E.fine(four, "buyer(3, 2)", four.buyer(3, 2), 1);
        // a text of fewer buyers leaves none of the earlier ones
        Texts.load(four, TEN + ";buyer z 3,4");
        E.fine(four, "buyer(0, 2)", four.buyer(0, 2), 7);
        E.due("buyer(1, 2)", four.buyer(1, 2), Edges.NONE);
    }

    @Says("UNITS of a BUYER and SERVICE.")
    static void p24_unitsLeastAndMost() {
        BasketCap cap = Texts.of(TEN + ";buyer p 0,99;buyer q 99,0");
        int[][] want = {{0, 99}, {99, 0}};
        for (int i = 0; i < 4; i++) {
            E.fine(cap, "units(" + i / 2 + ", " + i % 2 + ")", cap.units(i / 2, i % 2), want[i / 2][i % 2]);
        }
        BasketCap four = Texts.of(EACH);
        for (int i = 0; i < 16; i++) {
            E.fine(four, "units", four.units(i / 4, i % 4), i / 4 == i % 4 ? 1 : 0);
        }
        E.onlyAnswers("units(0, 0)", c -> c.units(0, 0));
    }

    @Says("NONE: 1.")
    static void p24_refusals() {
        E.outside("units(.., 0)", 0, 1, (c, n) -> c.units(n, 0), 1);
        E.outside("units(0, ..)", 0, 1, (c, n) -> c.units(0, n), 1);
        E.refused("units(2, 2)", c -> c.units(2, 2), 1);
        E.withoutText("units(0, 0)", c -> c.units(0, 0));
        E.refused("units(0, 0) without a buyer", () -> Texts.of(FOUR), c -> c.units(0, 0), 1);
    }

    // ---- 25, 26

    @Says("BUYERS whose BURDEN at NEW prices is above that at PRICES, as bits.")
    static void p25_aboveAndNotAlike() {
        for (int bits = 0; bits < 16; bits++) {
            for (int less = 0; less <= 1; less++) {
                BasketCap cap = Texts.of(EACH);
                for (int s = 0; s < 4; s++) {
                    cap.price(s, (bits >> s & 1) != 0 ? 6 : 5 - less);
                }
                E.fine(cap, "hurt() at " + bits, cap.hurt(), bits);
            }
        }
        BasketCap none = with(FOUR, 20, 20, 20, 20);
        E.fine(none, "no buyer", none.hurt(), 0);
        BasketCap even = with(TEN + ";buyer p 2,1", 4, 7);
        E.fine(even, "15 and 15", even.hurt(), 0);
        even.price(1, 8);
        E.fine(even, "16 and 15", even.hurt(), 1);
        E.onlyAnswers("hurt()", c -> c.hurt());
    }

    @Says("BUYERS whose BURDEN at NEW prices is above that at PRICES, as bits.")
    static void p25_moreOrFewerBuyersThanServices() {
        BasketCap more = with(Edges.flat(5, 0, 1) + ";buyer p 0;buyer q 1;buyer r 0;buyer s 2", 6);
        E.fine(more, "four of one service", more.hurt(), 10);
        BasketCap fewer = with(Edges.flat(5, 0, 1, 1, 1) + ";buyer p 0,0,1", 0, 0, 6);
        E.fine(fewer, "one of three", fewer.hurt(), 1);
        // burdens 5 and 500 at PRICES
        BasketCap unlike = with(Edges.flat(5, 0, 1, 1) + ";buyer p 1,0;buyer q 1,99", 6, 5);
        E.fine(unlike, "both", unlike.hurt(), 3);
        unlike.price(1, 4);
        E.fine(unlike, "the first alone", unlike.hurt(), 1);
        E.fine(unlike, "hardest()", unlike.hardest(), 0);
        unlike.price(1, 6);
        E.fine(unlike, "hardest() of 1 and 100", unlike.hardest(), 1);
        for (String text : Edges.MIXED) {
            E.asPlain("hurt()", text, c -> c.hurt(), p -> p.hurt());
            E.asPlain("hardest()", text, c -> c.hardest(), p -> p.hardest());
        }
    }

    @Says("NONE: 1 (no TEXT).")
    static void p25_refusals() {
        E.withoutText("hurt()", c -> c.hurt());
    }

    @Says({"The BUYER whose BURDEN at NEW prices is most above that at PRICES (or least below), of like ones the first;",
        "-2: there is no BUYER."})
    static void p26_mostAboveOrLeastBelow() {
        int[][] rows = {{5, 5, 5, 5, 0}, {4, 4, 4, 4, 0}, {4, 5, 4, 5, 1}, {0, 1, 2, 3, 3}, {3, 2, 1, 0, 0}, {6, 6, 7, 7, 2},
            {0, 0, 0, 20, 3}, {20, 20, 20, 20, 0}, {0, 0, 1, 1, 2}};
        for (int[] r : rows) {
            BasketCap cap = with(EACH, r[0], r[1], r[2], r[3]);
            E.fine(cap, "hardest()", cap.hardest(), r[4]);
        }
        BasketCap one = with(TEN + ";buyer p 9,9", 0, 0);
        E.fine(one, "one alone, far below", one.hardest(), 0);
        BasketCap none = Texts.of(FOUR);
        E.fine(none, "no buyer", none.hardest(), -2);
        E.onlyAnswers("hardest()", c -> c.hardest());
    }

    @Says("NONE: 1 (no TEXT).")
    static void p26_refusals() {
        E.withoutText("hardest()", c -> c.hardest());
    }

    // ---- 27, 28

    @Says({"GENTLE: PROFIT together (may be below 0, likewise).",
        "GENTLE: of ROWS by which the cap would be KEPT and no BUYER's BURDEN is above that at PRICES: that of the greatest PROFIT, of like ones the first."})
    static void p27_noBurdenAboveThatAtPrices() {
        gentle(Edges.flat(5, 0, 1) + ";index 50;buyer p 1", 5, 5);
        gentle(Edges.flat(5, 0, 1) + ";index 50;buyer p 0", 7, 7);
        gentle(Edges.flat(5, 0, 1) + ";index 50", 7, 7);
        gentle(Edges.flat(5, 0, 1) + ";x 50;buyer p 1", 2, 2);
        gentle(TEN + ";index 50;buyer p 1,0", 15, 0, 15);
        gentle(TEN + ";index 50;buyer p 0,1", 15, 10, 5);
        gentle(TEN + ";index 50;buyer p 0,1;buyer q 1,0", 10, 5, 5);
        gentle(TEN + ";index 50;buyer p 1,1", 10, 0, 10);
        gentle(TEN + ";index 50;buyer p 99,98", 10, 0, 10);
        gentle(TEN + ";index 50;buyer p 98,99", 10, 5, 5);
        gentle(TEN + ";index 50;buyer p 98,99;buyer q 99,98", 10, 5, 5);
        gentle(EACH + ";index 50", 20, 5, 5, 5, 5);
        E.onlyAnswers("gentle()", c -> c.gentle());
    }

    private static void gentle(String text, int profit, int... prices) {
        BasketCap cap = Texts.of(text);
        E.fine(cap, "gentle() of \"" + text + "\"", cap.gentle(), profit);
        for (int s = 0; s < prices.length; s++) {
            E.fine(cap, "gentleOf(" + s + ") of \"" + text + "\"", cap.gentleOf(s), prices[s]);
        }
        cap.price(0, 20);
        E.fine(cap, "gentle() doesn't hang on NEW prices", cap.gentle(), profit);
    }

    @Says("GENTLE: PROFIT together (may be below 0, likewise).")
    static void p27_gentleBelowZero() {
        gentle(Edges.flat(0, 1, 1) + ";buyer p 1", -1, 0);
        gentle(Edges.flat(5, 6, 1) + ";index 50;buyer p 1", -1, 5);
        // without WEIGHT or BASE the buyer alone holds the price
        gentle("service a price 4 size 36 slope 9 cost 0;buyer p 1", 36, 2);
        gentle(Edges.flat(0, 20, 200, 200, 200, 200) + ";buyer p 1,1,1,1", -16000, 0, 0, 0, 0);
    }

    @Says("NONE: 1 (no TEXT).")
    static void p27_refusals() {
        E.withoutText("gentle()", c -> c.gentle());
    }

    @Says("no BUYER's BURDEN is above that at PRICES")
    static void p27_mixedServices() {
        gentle("service a price 2 size 5 slope 0 cost 0;service b price 9 size 5 slope 0 cost 0;buyer p 1,0;buyer q 0,1;"
                + "index 50", 55, 2, 9);
        for (String text : Edges.MIXED) {
            E.asPlain("gentle()", text, c -> c.gentle(), p -> p.gentle());
            for (int k = 0; k < 3; k++) {
                int s = k;
                E.asPlain("gentleOf(" + s + ")", text, c -> c.gentleOf(s), p -> p.gentleOf(s));
            }
        }
        E.asPlain("gentle()", Edges.MIXED_FOUR, c -> c.gentle(), p -> p.gentle());
        E.asPlain("gentleOf(2)", Edges.MIXED_FOUR, c -> c.gentleOf(2), p -> p.gentleOf(2));
    }

    @Says("no BUYER's BURDEN is above that at PRICES")
    static void p27_buyersOfEarlierTextsHoldNothing() {
        BasketCap cap = new BasketCap();
        for (int i = 0; i < 3; i++) {
            Texts.load(cap, Edges.flat(0, 0, 1, 1) + ";buyer p 1,1;buyer q 9,9;buyer r 7,8;buyer s 6,5");
            E.fine(cap, "four", cap.gentle(), 0);
            for (int k = 0; k <= i; k++) {
                Texts.load(cap, TEN + ";index 50;buyer p 1,0");
            }
            E.fine(cap, "one", cap.gentle(), 15);
            Texts.load(cap, TEN + ";index 50");
            E.fine(cap, "none", cap.gentle(), 15);
        }
    }

    @Says("GENTLE: the price of a SERVICE.")
    static void p28_knownAnewBehindEachAct() {
        BasketCap cap = Texts.of(Edges.flat(10, 0, 10) + ";buyer p 1;index 50");
        E.fine(cap, "the buyer holds it", cap.gentleOf(0), 10);
        cap.become(1, 50);
        E.fine(cap, "100 allowed", cap.gentleOf(0), 10);
        cap.become(0, 0);
        E.fine(cap, "50 allowed", cap.gentleOf(0), 5);
        cap.price(0, 3);
        cap.year(false);
        E.fine(cap, "a year: the burden at 3, 15 and 5 allowed", cap.gentleOf(0), 2);
        cap.undo();
        E.fine(cap, "undone", cap.gentleOf(0), 5);
        E.onlyAnswers("gentleOf(0)", c -> c.gentleOf(0));
    }

    @Says("NONE: 1.")
    static void p28_refusals() {
        E.outside("gentleOf", 0, 1, (c, n) -> c.gentleOf(n), 1);
        E.withoutText("gentleOf(0)", c -> c.gentleOf(0));
    }

    // ---- 29, 30

    @Says({"STEADY by d (0 .. 20): PROFIT together (may be below 0, likewise).",
        "STEADY by d: of ROWS by which the cap would be KEPT and each price is d or less off its PRICE: likewise."})
    static void p29_fromZeroToTwenty() {
        BasketCap up = Texts.of(Edges.flat(5, 0, 1) + ";index 50");
        for (int d = 0; d <= 20; d++) {
            E.fine(up, "steady(" + d + ")", up.steady(d), Math.min(5 + d, 7));
            E.fine(up, "steadyOf(" + d + ", 0)", up.steadyOf(d, 0), Math.min(5 + d, 7));
        }
        BasketCap top = Texts.of(Edges.flat(20, 0, 1) + ";index 50");
        BasketCap far = Texts.of("service a price 20 size 20 slope 1 cost 0");
        BasketCap low = Texts.of("service a price 0 size 0 slope 1 cost 0");
        for (int d = 0; d <= 20; d++) {
            E.fine(top, "no more than 20", top.steadyOf(d, 0), 20);
            E.fine(far, "down to 10", far.steadyOf(d, 0), Math.max(20 - d, 10));
            E.fine(low, "no less than 0", low.steadyOf(d, 0), 0);
        }
        BasketCap one = Texts.of(Edges.flat(5, 6, 1));
        E.fine(one, "-1", one.steady(0), -1);
        for (int d : new int[] {0, 3, 20}) {
            int by = d;
            E.onlyAnswers("steady(" + d + ")", c -> c.steady(by));
        }
    }

    @Says("NONE: 1 (no TEXT); 2; 6 (there is no such ROW).")
    static void p29_refusals() {
        E.outside("steady", 0, 20, (c, n) -> c.steady(n), 2);
        E.withoutText("steady(0)", c -> c.steady(0));
        E.withoutText("steady(21)", c -> c.steady(21));
        String due = Edges.flat(5, 0, 1) + " quality 0 target 99;due 99";
        for (int d = 0; d < 5; d++) {
            int by = d;
            E.refused("steady(" + d + ") of ALLOWED 0", () -> Texts.of(due), c -> c.steady(by), 6);
            E.refused("steadyOf(" + d + ", 0) of ALLOWED 0", () -> Texts.of(due), c -> c.steadyOf(by, 0), 6);
        }
        E.refused("steady(21) where there is no row", () -> Texts.of(due), c -> c.steady(21), 2);
        BasketCap cap = Texts.of(due);
        E.fine(cap, "steady(5)", cap.steady(5), 0);
        E.due("steady(4) behind it", cap.steady(4), Edges.NONE);
        E.due("trouble()", cap.trouble(), 6);
        BasketCap less = Texts.of(Edges.flat(5, 0, 1) + ";x 1");
        E.due("steady(0) of 4", less.steady(0), Edges.NONE);
        E.due("trouble()", less.trouble(), 6);
        E.fine(less, "steady(1) of 4", less.steady(1), 4);
        less.become(1, 0);
        E.fine(less, "steady(0) of 5", less.steady(0), 5);
        less.price(0, 20);
        E.fine(less, "NEW prices don't count", less.steady(0), 5);
    }

    @Says("STEADY by d (0 .. 20): PROFIT together")
    static void p29_knownAnewBehindEachAct() {
        BasketCap cap = Texts.of(Edges.flat(10, 0, 10) + " quality 0 target 1");
        E.fine(cap, "steady(5)", cap.steady(5), 100);
        cap.become(3, 30);
        E.fine(cap, "a due", cap.steady(5), 70);
        cap.become(3, 60);
        E.due("a greater one", cap.steady(5), Edges.NONE);
        E.due("trouble()", cap.trouble(), 6);
        cap.quality(0, 1);
        E.fine(cap, "a quality", cap.steady(5), 100);
        cap.become(0, 50);
        E.fine(cap, "an index", cap.steady(5), 150);
        cap.keep(0);
        cap.price(0, 6);
        E.fine(cap, "a price", cap.steady(5), 150);
        cap.year(false);
        E.fine(cap, "a year: 90 and 15 carried", cap.steady(5), 100);
        E.fine(cap, "6 at least, 7 at most", cap.steady(1), 70);
        cap.undo();
        E.fine(cap, "undone", cap.steady(1), 110);
        cap.become(1, 50);
        E.fine(cap, "an x", cap.steady(1), 100);
        cap.back(0);
        E.fine(cap, "back", cap.steady(1), 110);
        Texts.load(cap, Edges.flat(5, 0, 1));
        E.fine(cap, "a text", cap.steady(1), 5);
    }

    @Says("STEADY by d: the price of a SERVICE.")
    static void p30_ofLikeRowsTheFirst() {
        BasketCap cap = Texts.of(TEN);
        for (int d = 0; d <= 20; d++) {
            E.fine(cap, "steadyOf(" + d + ", 0)", cap.steadyOf(d, 0), Math.max(5 - d, 0));
            E.fine(cap, "steadyOf(" + d + ", 1)", cap.steadyOf(d, 1), Math.min(5 + d, 10));
        }
        BasketCap like = Texts.of("service a price 6 size 20 slope 2 cost 1");
        E.fine(like, "6 alone", like.steadyOf(0, 0), 6);
        E.fine(like, "of 5 and 6 the lesser", like.steadyOf(1, 0), 5);
        E.fine(like, "asked back", like.steadyOf(0, 0), 6);
        E.onlyAnswers("steadyOf(2, 1)", c -> c.steadyOf(2, 1));
    }

    @Says("each price is d or less off its PRICE")
    static void p30_mixedServices() {
        BasketCap cap = Texts.of("service a price 3 size 1 slope 0 cost 0;service b price 12 size 1 slope 0 cost 0;"
                + "service c price 20 size 1 slope 0 cost 0;index 50");
        int[][] want = {{3, 12, 20}, {4, 13, 20}, {5, 14, 20}};
        for (int d = 0; d < 3; d++) {
            for (int s = 0; s < 3; s++) {
                E.fine(cap, "steadyOf(" + d + ", " + s + ")", cap.steadyOf(d, s), want[d][s]);
            }
        }
        for (String text : Edges.MIXED) {
            for (int k = 0; k <= 20; k++) {
                int d = k;
                int s = k % 3;
                E.asPlain("steady(" + d + ")", text, c -> c.steady(d), p -> p.steady(d));
                E.asPlain("steadyOf(" + d + ", " + s + ")", text, c -> c.steadyOf(d, s), p -> p.steadyOf(d, s));
            }
        }
    }

    @Says("NONE: 1; 2; 6.")
    static void p30_refusals() {
        E.outside("steadyOf(3, ..)", 0, 1, (c, n) -> c.steadyOf(3, n), 1);
        E.outside("steadyOf(.., 0)", 0, 20, (c, n) -> c.steadyOf(n, 0), 2);
        E.refused("steadyOf(21, 2)", c -> c.steadyOf(21, 2), 1);
        E.refused("steadyOf(-1, -1)", c -> c.steadyOf(-1, -1), 1);
        E.refused("steadyOf(0, 0)", Edges::young, c -> c.steadyOf(0, 0), 6);
        E.refused("steadyOf(0, 2) where there is no row", Edges::young, c -> c.steadyOf(0, 2), 1);
        E.withoutText("steadyOf(21, 0)", c -> c.steadyOf(21, 0));
    }

    // ---- 31

    @Says({"LEVEL of NEW prices against PRICES in lowest terms, kind 0 by WEIGHTS, 1 by what is BOUGHT at NEW prices:",
        "above (what 0), below (1): NEW prices times these, together, by PRICES times these."})
    static void p31_lowestTerms() {
        int[][] rows = {{4, 6, 3, 2}, {4, 4, 1, 1}, {4, 0, 0, 1}, {19, 20, 20, 19}, {20, 1, 1, 20}, {1, 20, 20, 1},
            {12, 18, 3, 2}, {20, 20, 1, 1}};
        for (int[] r : rows) {
            for (int size : new int[] {1, 7, 200}) {
                BasketCap cap = with(Edges.flat(r[0], 0, size), r[1]);
                for (int kind = 0; kind < 2; kind++) {
                    E.fine(cap, "above of " + r[1] + " by " + r[0], cap.level(kind, 0), r[2]);
                    E.fine(cap, "below of " + r[1] + " by " + r[0], cap.level(kind, 1), r[3]);
                }
            }
        }
        // by WEIGHTS 12, 30: 222 by 198; by 8, 30: 198 by 182
        BasketCap two = with(Check.A, 6, 5);
        int[] want = {37, 33, 99, 91};
        for (int i = 0; i < 4; i++) {
            E.fine(two, "level(" + i / 2 + ", " + i % 2 + ")", two.level(i / 2, i % 2), want[i]);
            int at = i;
            E.onlyAnswers("level(" + i / 2 + ", " + i % 2 + ")", c -> c.level(at / 2, at % 2));
        }
        BasketCap most = with(Edges.flat(19, 0, 200, 200, 200, 199), 20, 20, 20, 20);
        E.fine(most, "great numbers", most.level(0, 0), 20);
    }

    @Says("NONE: 1 (no TEXT, kind, what); 5 (the lower one is 0).")
    static void p31_refusals() {
        E.outside("level(.., 0)", 0, 1, (c, n) -> c.level(n, 0), 1);
        E.outside("level(0, ..)", 0, 1, (c, n) -> c.level(0, n), 1);
        E.withoutText("level(0, 0)", c -> c.level(0, 0));
        for (int i = 0; i < 4; i++) {
            int at = i;
            Edges.Call level = c -> c.level(at / 2, at % 2);
            E.refused("level of prices 0", () -> with(Edges.flat(0, 0, 9), 7), level, 5);
            E.refused("level of nothing bought", () -> Texts.of(Edges.flat(5, 0, 0)), level, 5);
        }
        // nothing is bought at the one's prices, but at the other's
        String steep = "service a price 4 size 20 slope 2 cost 1";
        E.refused("level(1, 0) at 10", () -> with(steep, 10), c -> c.level(1, 0), 5);
        BasketCap dear = with(steep, 10);
        E.fine(dear, "level(0, 0) at 10", dear.level(0, 0), 5);
        String light = "service a price 20 size 20 slope 2 cost 1";
        E.refused("level(0, 1) from 20", () -> with(light, 4), c -> c.level(0, 1), 5);
        BasketCap cheap = with(light, 4);
        E.fine(cheap, "level(1, 1) from 20", cheap.level(1, 1), 5);
        E.refused("level(2, 0) of prices 0", () -> Texts.of(Edges.flat(0, 0, 9)), c -> c.level(2, 0), 1);
        E.refused("level(0, 2) of prices 0", () -> Texts.of(Edges.flat(0, 0, 9)), c -> c.level(0, 2), 1);
    }

    // ---- 32

    @Says({"A TRADE: 0 PROFIT of all then (may be below 0, likewise), 1 the SERVICE that goes up, 2 that goes down, 3 k.",
        "A TRADE: of NEW prices one is 1 more (20 at most), that of another SERVICE k less (0 at least), k (0 ..) the least by which the cap is KEPT"})
    static void p32_twentyAtMostZeroAtLeast() {
        trades(TEN, new int[] {5, 5}, 10, 0, 1, 1);
        trades(TEN, new int[] {3, 4}, 8, 0, 1, 0);
        trades(TEN, new int[] {4, 5}, 10, 0, 1, 0);
        trades(TEN, new int[] {11, 0}, 10, 1, 0, 2);
        trades(TEN, new int[] {20, 0}, 10, 1, 0, 11);
        trades(TEN, new int[] {0, 20}, 10, 0, 1, 11);
        trades(TEN, new int[] {9, 20}, 10, 0, 1, 20);
        trades(TEN, new int[] {10, 20}, 10, 1, 0, 0, 6);
        trades(Edges.flat(20, 0, 1, 1), new int[] {20, 19}, 40, 1, 0, 0);
        trades(Edges.flat(20, 0, 1, 1), new int[] {19, 20}, 40, 0, 1, 0);
        trades(Edges.flat(20, 0, 1, 1), new int[] {20, 20}, 0, 0, 0, 0, 6);
        // a service without weight may go up, but going down it helps nothing
        trades(Edges.flat(5, 0, 1, 0), new int[] {5, 5}, 5, 1, 0, 0);
        trades(Edges.flat(5, 0, 1, 0), new int[] {5, 20}, 0, 0, 0, 0, 6);
        trades(Edges.flat(5, 0, 1, 0), new int[] {4, 20}, 5, 0, 1, 0);
        for (int i = 0; i < 4; i++) {
            int what = i;
            E.onlyAnswers("trade(" + i + ")", c -> c.trade(what));
        }
    }

    /** Four answers, or a fifth number: the trouble by which it is refused. */
    private static void trades(String text, int[] fresh, int... want) {
        for (int what = 0; what < 4; what++) {
            int w = what;
            if (want.length > 4) {
                E.refused("trade(" + w + ")", () -> with(text, fresh), c -> c.trade(w), want[4]);
            } else {
                BasketCap cap = with(text, fresh);
                E.fine(cap, "trade(" + w + ") at " + fresh[0] + ", " + fresh[1], cap.trade(w), want[w]);
            }
        }
    }

    @Says("that by which PROFIT of all is greatest, of like ones of the least SERVICE that goes up, then of the least that goes down.")
    static void p32_theGreatestOfLikeOnesTheLeast() {
        trades(Edges.flat(3, 0, 1, 1, 1), new int[] {3, 3, 3}, 9, 0, 1, 1);
        trades(Edges.flat(3, 0, 1, 1, 1), new int[] {20, 3, 3}, 9, 1, 0, 18);
        trades(Edges.flat(3, 0, 1, 1, 1), new int[] {4, 5, 0}, 9, 0, 1, 1);
        trades(Edges.flat(3, 0, 1, 1, 1, 1), new int[] {2, 2, 2, 2}, 9, 0, 1, 0);
        trades(Edges.flat(3, 0, 2, 1, 1), new int[] {3, 3, 3}, 12, 0, 1, 2);
        // a goes up; b down by 4 and c down by 2 leave 80 either way
        trades("service a price 5 size 10 slope 0 cost 0;service b price 5 size 10 slope 1 cost 9;"
                + "service c price 5 size 10 slope 0 cost 0", new int[] {0, 9, 9}, 80, 0, 1, 4);
        // below 0, -1 too
        trades("service a price 0 size 1 slope 0 cost 1;service b price 0 size 0 slope 0 cost 1", new int[] {0, 0}, -1, 1, 0, 0);
        trades(Edges.flat(5, 10, 1, 1), new int[] {5, 5}, -10, 0, 1, 1);
    }

    @Says("that by which PROFIT of all is greatest")
    static void p32_mixedServices() {
        for (int k = 0; k < 4; k++) {
            int what = k;
            for (String text : Edges.MIXED) {
                E.asPlain("trade(" + what + ")", text, c -> c.trade(what), p -> p.trade(what));
            }
            E.asPlain("trade(" + what + ")", Edges.MIXED_FOUR, c -> c.trade(what), p -> p.trade(what));
        }
    }

    @Says("NONE: 1 (no TEXT, what); 6 (there is none).")
    static void p32_refusals() {
        E.outside("trade", 0, 3, (c, n) -> c.trade(n), 1);
        E.withoutText("trade(0)", c -> c.trade(0));
        trades(Edges.flat(5, 0, 1), new int[] {0, 0}, 0, 0, 0, 0, 6);
        trades(Edges.flat(0, 0, 1, 1), new int[] {0, 0}, 0, 0, 0, 0, 6);
        trades(TEN, new int[] {20, 10}, 0, 0, 0, 0, 6);
        BasketCap then = Texts.of(TEN);
        E.fine(then, "there is one", then.trade(0), 10);
        then.price(0, 20);
        then.price(1, 10);
        E.due("there is none then", then.trade(0), Edges.NONE);
        E.due("trouble()", then.trouble(), 6);
        then.undo();
        E.fine(then, "and one again", then.trade(3), 16);
        E.refused("trade(4) where there is none", () -> Texts.of(Edges.flat(5, 0, 1)), c -> c.trade(4), 1);
    }

    // ---- 33

    @Says("The fewest YEARS n (0 .. 8) of PATH behind which OFF of PRICES is v (0 .. 80) or less; -2: not by eight.")
    static void p33_fromZeroYearsToEight() {
        BasketCap down = Texts.of(Edges.flat(20, 0, 10) + ";x 5;carry 0");
        for (int v = 0; v <= 80; v++) {
            E.fine(down, "reach(" + v + ")", down.reach(v), v >= 20 ? 0 : v >= 12 ? 20 - v : -2);
        }
        BasketCap most = Texts.of(Edges.flat(0, 20, 1, 1, 1, 1));
        E.fine(most, "80 off", most.reach(80), 0);
        E.fine(most, "not 79", most.reach(79), -2);
        BasketCap none = Texts.of(Edges.flat(7, 7, 3));
        E.fine(none, "nothing off", none.reach(0), 0);
        // OFF may grow again: the fewest years count; 5, 5 becomes 0, 10
        BasketCap grow = Texts.of(Edges.flat(5, 5, 1, 1));
        E.fine(grow, "at once", grow.reach(0), 0);
        grow.price(0, 20);
        E.fine(grow, "NEW prices don't count", grow.reach(0), 0);
        BasketCap away = with(Edges.flat(7, 7, 3), 20);
        E.fine(away, "OFF of PRICES, not of NEW ones", away.reach(0), 0);
        BasketCap near = with(Edges.flat(20, 0, 10) + ";x 5;carry 0", 0);
        E.fine(near, "nor these", near.reach(0), -2);
        for (String text : Edges.MIXED) {
            for (int k = 0; k < 20; k++) {
                int v = k;
                E.asPlain("reach(" + v + ")", text, c -> c.reach(v), p -> p.reach(v));
            }
        }
        E.onlyAnswers("reach(0)", c -> c.reach(0));
        E.onlyAnswers("reach(80)", c -> c.reach(80));
    }

    @Says("NONE: 1 (no TEXT); 2.")
    static void p33_refusals() {
        E.outside("reach", 0, 80, (c, n) -> c.reach(n), 2);
        E.withoutText("reach(0)", c -> c.reach(0));
        E.withoutText("reach(81)", c -> c.reach(81));
    }

    // ---- 34

    @Says("PROFIT of the next YEAR's BEST, were this one to end now (forced) on paper (may be below 0, likewise).")
    static void p34_keptOrForced() {
        int[] want = {0, 1, 2, 3, 4, 5, 4, 3, 2, 1, 0, 0, 0, 0, 0, 0, 0, 0, 0, 0, 0};
        for (int p = 0; p <= 20; p++) {
            BasketCap cap = with(Edges.flat(5, 0, 1), p);
            E.fine(cap, "next() at " + p, cap.next(), want[p]);
            BasketCap all = with(Edges.flat(5, 0, 1) + ";carry 100", p);
            E.fine(all, "next() at " + p + ", all carried", all.next(), p <= 5 ? 5 : want[p]);
            E.due("the year stays", cap.about(1), 0);
        }
        BasketCap one = Texts.of(Edges.flat(0, 1, 1));
        E.fine(one, "-1", one.next(), -1);
        BasketCap most = Texts.of(Edges.flat(0, 20, 200, 200, 200, 200));
        E.fine(most, "the least", most.next(), -16000);
        E.onlyAnswers("next()", c -> c.next());
    }

    @Says({"were this one to end now (forced) on paper", "(On paper a YEAR ends behind 99, too.)"})
    static void p34_behind99() {
        BasketCap cap = atYear99(Edges.flat(5, 0, 1));
        E.fine(cap, "next()", cap.next(), 5);
        cap.price(0, 7);
        E.fine(cap, "forced", cap.next(), 3);
        E.due("the year stays", cap.about(1), 99);
    }

    @Says("NONE: 1 (no TEXT).")
    static void p34_refusals() {
        E.withoutText("next()", c -> c.next());
    }

    // ---- 35

    @Says("By how much ALLOWED would be more, were QUALITY of a SERVICE its TARGET (0 if it lacks nothing).")
    static void p35_whatLacks() {
        // ALLOWED 45 less what lacks; 0 at least
        for (int lacks = 0; lacks <= 60; lacks++) {
            BasketCap cap = Texts.of(Edges.flat(5, 0, 9) + " quality 5 target " + (5 + lacks) + ";due 1");
            E.fine(cap, "gains(0), lacks " + lacks, cap.gains(0), Math.min(lacks, 45));
        }
        BasketCap above = Texts.of(Edges.flat(5, 0, 9) + " quality 99 target 5;due 99");
        E.fine(above, "above the target", above.gains(0), 0);
        above.quality(0, 4);
        above.become(3, 0);
        E.fine(above, "no due", above.gains(0), 0);
        String lack = Edges.flat(5, 0, 9) + " quality 0 target 60;" + Edges.flat(5, 0, 9).replace(" a ", " b ")
                + " quality 0 target 60;due 1";
        BasketCap two = Texts.of(lack);
        E.fine(two, "the other still lacks", two.gains(0), 30);
        two.quality(1, 60);
        E.fine(two, "all of it", two.gains(0), 60);
        E.fine(two, "it lacks nothing", two.gains(1), 0);
        BasketCap back = with(Edges.flat(5, 0, 9) + " quality 0 target 10;due 1", 9);
        back.year(true);
        // 81 less twice 46, less 10
        E.fine(back, "ALLOWED stays 0", back.gains(0), 0);
        E.onlyAnswers("gains(1)", c -> c.gains(1));
    }

    @Says("NONE: 1.")
    static void p35_refusals() {
        E.outside("gains", 0, 1, (c, n) -> c.gains(n), 1);
        E.withoutText("gains(0)", c -> c.gains(0));
    }

    // ---- 36

    @Says("What of SPENT a SERVICE is, in lowest terms: above (what 0), below (1).")
    static void p36_lowestTerms() {
        int[][] rows = {{4, 6, 2, 5, 3, 5}, {5, 5, 1, 2, 1, 2}, {0, 7, 0, 1, 1, 1}, {7, 0, 1, 1, 0, 1}, {20, 1, 20, 21, 1, 21},
            {1, 0, 1, 1, 0, 1}};
        for (int[] r : rows) {
            BasketCap cap = with(TEN, r[0], r[1]);
            for (int i = 0; i < 4; i++) {
                E.fine(cap, "share(" + i / 2 + ", " + i % 2 + ")", cap.share(i / 2, i % 2), r[2 + i]);
            }
        }
        // by WEIGHTS, not by what is bought at NEW prices: 6 times 12 of 72 and 150
        BasketCap lag = with(Check.A, 6, 5);
        E.fine(lag, "above", lag.share(0, 0), 12);
        E.fine(lag, "below", lag.share(0, 1), 37);
        E.fine(lag, "above of the other", lag.share(1, 0), 25);
        BasketCap most = with(Edges.flat(20, 0, 200, 200, 200, 200), 20, 20, 20, 20);
        E.fine(most, "a fourth", most.share(3, 1), 4);
        for (String text : Edges.MIXED) {
            for (int k = 0; k < 6; k++) {
                int s = k / 2;
                int what = k % 2;
                E.asPlain("share(" + s + ", " + what + ")", text, c -> c.share(s, what), p -> p.share(s, what));
            }
        }
        E.onlyAnswers("share(0, 0)", c -> c.share(0, 0));
        E.onlyAnswers("share(1, 1)", c -> c.share(1, 1));
    }

    @Says("NONE: 1 (what, too); 5 (SPENT is 0).")
    static void p36_refusals() {
        E.outside("share(.., 0)", 0, 1, (c, n) -> c.share(n, 0), 1);
        E.outside("share(0, ..)", 0, 1, (c, n) -> c.share(0, n), 1);
        E.withoutText("share(0, 0)", c -> c.share(0, 0));
        for (int i = 0; i < 4; i++) {
            int at = i;
            Edges.Call share = c -> c.share(at / 2, at % 2);
            E.refused("share at prices 0", () -> with(TEN, 0, 0), share, 5);
            E.refused("share without weights", () -> Texts.of(Edges.flat(5, 0, 0, 0)), share, 5);
        }
        E.refused("share(2, 0) at prices 0", () -> with(TEN, 0, 0), c -> c.share(2, 0), 1);
        E.refused("share(0, 2) at prices 0", () -> with(TEN, 0, 0), c -> c.share(0, 2), 1);
    }

    // ---- 37, 38

    @Says("NEW prices are written, a , between: how many bytes.")
    static void p37_oneToElevenBytes() {
        for (int p = 0; p <= 20; p++) {
            writes(Edges.flat(5, 0, 1), "" + p, p);
        }
        writes(TEN, "0,0", 0, 0);
        writes(TEN, "9,10", 9, 10);
        writes(TEN, "10,9", 10, 9);
        writes(Edges.flat(5, 0, 1, 1, 1), "20,0,19", 20, 0, 19);
        writes(FOUR, "0,1,2,3", 0, 1, 2, 3);
        writes(FOUR, "20,20,20,20", 20, 20, 20, 20);
        writes(FOUR, "10,11,12,13", 10, 11, 12, 13);
        writes(FOUR, "5,5,5,5");
    }

    private static void writes(String text, String want, int... fresh) {
        BasketCap cap = with(text, fresh);
        E.fine(cap, "write() of " + want, cap.write(), want.length());
        for (int k = 0; k < want.length(); k++) {
            E.due("octet(" + k + ") of " + want, cap.octet(k), want.charAt(k));
        }
        E.noSuch("octet(" + want.length() + ") of " + want, () -> {
            BasketCap again = with(text, fresh);
            again.write();
            return again;
        }, c -> c.octet(want.length()));
    }

    @Says("NONE: 1 (no TEXT).")
    static void p37_refusals() {
        E.withoutText("write()", c -> c.write());
    }

    @Says("Byte k of what was written last (by write(); a TEXT leaves it).")
    static void p38_whatWasWrittenLast() {
        BasketCap cap = with(TEN, 17, 4);
        E.noSuch("octet(0) ahead of any", () -> with(TEN, 17, 4), c -> c.octet(0));
        cap.keep(0);
        cap.write();
        cap.price(0, 3);
        E.due("a price", cap.octet(1), '7');
        cap.undo();
        cap.lay(false);
        cap.year(true);
        cap.back(0);
        E.due("acts, undone, back", cap.octet(3), '4');
        Texts.load(cap, "?");
        E.due("a faulty text", cap.octet(0), '1');
        Texts.load(cap, Edges.flat(2, 0, 1));
        E.due("a text", cap.octet(2), ',');
        E.due("a text", cap.octet(3), '4');
        E.fine(cap, "write()", cap.write(), 1);
        E.due("the later one", cap.octet(0), '2');
        E.noSuch("no more of the earlier one", EdgeBuyersTest::shorter, c -> c.octet(1));
    }

    private static BasketCap shorter() {
        BasketCap cap = with(TEN, 17, 4);
        cap.write();
        Texts.load(cap, Edges.flat(2, 0, 1));
        cap.write();
        return cap;
    }

    @Says("NoSuchElementException if there is none such.")
    static void p38_noSuchByte() {
        for (int k : Edges.FAR) {
            E.noSuch("octet(" + k + ")", Edges::rich, c -> c.octet(k));
        }
        E.noSuch("octet(-1)", Edges::rich, c -> c.octet(-1));
        E.noSuch("octet(3) of three", Edges::rich, c -> c.octet(3));
        E.noSuch("octet(11) of eleven", () -> {
            BasketCap cap = with(FOUR, 20, 20, 20, 20);
            cap.write();
            cap.rule(4);
            return cap;
        }, c -> c.octet(11));
        E.noSuch("octet(0) of a new one", BasketCap::new, c -> c.octet(0));
        E.noSuch("octet(0) where nothing was written", Edges::young, c -> c.octet(0));
        E.noSuch("octet(0) behind a write that was refused", () -> {
            BasketCap cap = new BasketCap();
            cap.write();
            return cap;
        }, c -> c.octet(0));
    }
}
