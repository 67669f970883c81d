/** Promises 13 to 22, boundary by boundary: how far prices may go, BEST, FAIR, ROWS, THE GAME, PATH. */
public final class EdgePricesTest {
    private static final Edges E = new Edges("EdgePricesTest");
    /** ALLOWED 10, each WEIGHT 1. */
    private static final String TEN = Edges.flat(5, 0, 1, 1);
    /** Bought a little at 0 alone, at a loss of 1. */
    private static final String LOSS = "service a price 0 size 1 slope 1 cost 1";
    /** At 20 nothing is bought: no WEIGHT, no BASE; 5 and 6 are best alike. */
    private static final String LIGHT = "service a price 20 size 20 slope 2 cost 1";

    public static void main(String[] args) throws Exception {
        E.run(EdgePricesTest.class);
    }

    private static BasketCap atYear99(String text) {
        BasketCap cap = Texts.of(text);
        for (int y = 0; y < 99; y++) {
            cap.year(true);
        }
        return cap;
    }

    private static BasketCap with(String text, int... fresh) {
        BasketCap cap = Texts.of(text);
        for (int s = 0; s < fresh.length; s++) {
            cap.price(s, fresh[s]);
        }
        return cap;
    }

    // ---- 13

    @Says({"The greatest price of a SERVICE by which, all other NEW prices as they are, the cap is KEPT; -2: by none."})
    static void p13_fromTwentyDownToNone() {
        for (int other = 0; other <= 20; other++) {
            BasketCap cap = with(TEN, 3, other);
            E.fine(cap, "most(0) beside " + other, cap.most(0), other <= 10 ? 10 - other : -2);
            E.fine(cap, "most(1) beside 3", cap.most(1), 7);
        }
        BasketCap high = Texts.of(Edges.flat(20, 0, 1));
        E.fine(high, "just 20", high.most(0), 20);
        high.become(1, 1);
        E.fine(high, "one less", high.most(0), 19);
        high.become(0, 50);
        E.fine(high, "no more than 20", high.most(0), 20);
        BasketCap none = Texts.of(LIGHT);
        E.fine(none, "without weight", none.most(0), 20);
        BasketCap zero = Texts.of(LOSS);
        E.fine(zero, "0 alone", zero.most(0), 0);
        E.onlyAnswers("most(0)", c -> c.most(0));
    }

    @Says("all other NEW prices as they are")
    static void p13_itsOwnNewPriceDoesNotCount() {
        for (int own = 0; own <= 20; own += 5) {
            BasketCap cap = with(TEN, own, 4);
            E.fine(cap, "most(0) at " + own, cap.most(0), 6);
        }
        BasketCap light = with(LIGHT + ";" + Edges.flat(4, 0, 9).replace(" a ", " b "), 20, 5);
        E.fine(light, "the other breaks the cap", light.most(0), -2);
        E.fine(light, "the other alone", light.most(1), 4);
    }

    @Says("The greatest price of a SERVICE")
    static void p13_mixedServices() {
        for (String text : Edges.MIXED) {
            for (int k = 0; k < 3; k++) {
                int s = k;
                E.asPlain("most(" + s + ")", text, c -> c.most(s), p -> p.most(s));
            }
        }
    }

    @Says("NONE: 1.")
    static void p13_refusals() {
        E.outside("most", 0, 1, (c, n) -> c.most(n), 1);
        E.withoutText("most(0)", c -> c.most(0));
    }

    // ---- 14

    @Says("The price of a SERVICE with the greatest PROFIT, were there no cap, of like ones the least.")
    static void p14_ofLikeOnesTheLeast() {
        String[] texts = {Edges.flat(5, 0, 9), Edges.flat(5, 0, 0), Edges.flat(5, 20, 9), LIGHT, LOSS,
            "service a price 5 size 20 slope 1 cost 0", "service a price 5 size 18 slope 9 cost 20",
            "service a price 5 size 21 slope 1 cost 0"};
        int[] want = {20, 0, 20, 5, 1, 10, 2, 10};
        for (int i = 0; i < texts.length; i++) {
            BasketCap cap = Texts.of(texts[i]);
            E.fine(cap, "free(0) of \"" + texts[i] + "\"", cap.free(0), want[i]);
        }
        StringBuilder four = new StringBuilder();
        String[] parts = {LIGHT, "service b price 5 size 20 slope 1 cost 0", "service c price 1 size 9 slope 0 cost 20",
            "service d price 3 size 0 slope 0 cost 4"};
        for (String part : parts) {
            four.append(four.length() > 0 ? ";" : "").append(part);
        }
        BasketCap each = Texts.of(four.toString());
        int[] of = {5, 10, 20, 0};
        for (int s = 0; s < 4; s++) {
            E.fine(each, "free(" + s + ")", each.free(s), of[s]);
        }
        BasketCap bound = Texts.of(Edges.flat(0, 0, 9));
        E.fine(bound, "ALLOWED 0 doesn't matter", bound.free(0), 20);
        E.onlyAnswers("free(0)", c -> c.free(0));
    }

    @Says({"The price of a SERVICE with the greatest PROFIT, were there no cap, of like ones the least."})
    static void p14_mixedServices() {
        for (String text : Edges.MIXED) {
            for (int k = 0; k < 3; k++) {
                int s = k;
                E.asPlain("free(" + s + ")", text, c -> c.free(s), p -> p.free(s));
            }
        }
    }

    @Says("NONE: 1.")
    static void p14_refusals() {
        E.outside("free", 0, 1, (c, n) -> c.free(n), 1);
        E.withoutText("free(0)", c -> c.free(0));
    }

    // ---- 15, 16

    @Says({"BEST: PROFIT together (may be below 0, likewise).",
        "BEST: of all ROWS by which, as NEW prices, the cap would be KEPT, that of the greatest PROFIT",
        "(ALLOWED is 0 at least: prices 0 always keep it.)"})
    static void p15_bestBelowZeroAndAtTheEnds() {
        int[][] rows = {{0, 1, 1, -1}, {0, 20, 200, -4000}, {20, 0, 200, 4000}, {20, 20, 9, 0}, {5, 0, 0, 0}, {5, 5, 1, 0},
            {5, 6, 1, -1}};
        for (int[] r : rows) {
            BasketCap cap = Texts.of(Edges.flat(r[0], r[1], r[2]));
            E.fine(cap, "best() of price " + r[0] + " cost " + r[1], cap.best(), r[3]);
        }
        BasketCap four = Texts.of(Edges.flat(20, 0, 200, 200, 200, 200));
        E.fine(four, "the most", four.best(), 16000);
        BasketCap low = Texts.of(Edges.flat(0, 20, 200, 200, 200, 200));
        E.fine(low, "the least", low.best(), -16000);
        BasketCap due = Texts.of(Edges.flat(5, 1, 9) + " quality 0 target 99;due 99");
        E.fine(due, "ALLOWED 0: prices 0", due.best(), -9);
        E.fine(due, "its price", due.bestOf(0), 0);
        E.onlyAnswers("best()", c -> c.best());
    }

    @Says("by which, as NEW prices, the cap would be KEPT")
    static void p15_justAllowedCounts() {
        for (int x = 0; x <= 50; x++) {
            BasketCap cap = Texts.of(Edges.flat(10, 0, 10) + ";x " + x);
            E.fine(cap, "best() with x " + x, cap.best(), (100 - x) / 10 * 10);
        }
        BasketCap cap = Texts.of(Edges.flat(10, 0, 7) + ";x 10");
        E.fine(cap, "just 63", cap.best(), 63);
        cap.become(1, 11);
        E.fine(cap, "62", cap.best(), 56);
    }

    @Says("BEST: PROFIT together")
    static void p15_knownAnewBehindEachAct() {
        BasketCap cap = Texts.of(Edges.flat(10, 0, 10) + " quality 0 target 1");
        E.fine(cap, "best()", cap.best(), 100);
        cap.become(3, 30);
        E.fine(cap, "a due", cap.best(), 70);
        cap.quality(0, 1);
        E.fine(cap, "a quality", cap.best(), 100);
        cap.become(0, 20);
        E.fine(cap, "an index", cap.best(), 120);
        cap.become(1, 40);
        E.fine(cap, "an x", cap.best(), 80);
        cap.keep(0);
        cap.price(0, 3);
        E.fine(cap, "a price", cap.best(), 80);
        cap.year(false);
        E.fine(cap, "a year: 24 and 8 carried", cap.best(), 30);
        cap.undo();
        E.fine(cap, "undone", cap.best(), 80);
        cap.become(1, 0);
        cap.back(0);
        E.fine(cap, "back", cap.best(), 80);
        Texts.load(cap, Edges.flat(3, 0, 4));
        E.fine(cap, "a text", cap.best(), 12);
    }

    @Says("BEST: of all ROWS by which, as NEW prices, the cap would be KEPT, that of the greatest PROFIT")
    static void p15_mixedServices() {
        for (String text : Edges.MIXED) {
            E.asPlain("best()", text, c -> c.best(), p -> p.best());
        }
        E.asPlain("best()", Edges.MIXED_FOUR, c -> c.best(), p -> p.best());
    }

    @Says("NONE: 1 (no TEXT).")
    static void p15_refusals() {
        E.withoutText("best()", c -> c.best());
    }

    @Says({"BEST: the price of a SERVICE.", "ROWS of prices (0 .. 20 for each SERVICE) are compared from SERVICE 0 on, the lesser first.",
        "that of the greatest PROFIT, of like ones the first."})
    static void p16_ofLikeRowsTheFirst() {
        bests(TEN, 0, 10);
        bests(Edges.flat(4, 0, 20, 10), 0, 12);
        bests(Edges.flat(15, 0, 1, 1), 10, 20);
        bests(Edges.flat(4, 0, 1, 1, 1), 0, 0, 12);
        bests(Edges.flat(8, 0, 1, 1, 1), 0, 4, 20);
        bests(Edges.flat(11, 0, 1, 1, 1, 1), 0, 4, 20, 20);
        bests(Edges.flat(20, 0, 1, 1, 1, 1), 20, 20, 20, 20);
        bests(Edges.flat(0, 0, 1, 1, 1, 1), 0, 0, 0, 0);
        // no weight: of the like 5 and 6 the lesser; nothing bought at any price: 0
        bests(LIGHT, 5);
        bests(Edges.flat(9, 3, 0), 0);
        // 5 and 6 alike, though either keeps the cap
        bests("service a price 4 size 20 slope 2 cost 1;index 50", 5);
        E.onlyAnswers("bestOf(1)", c -> c.bestOf(1));
    }

    private static void bests(String text, int... want) {
        BasketCap cap = Texts.of(text);
        for (int s = 0; s < want.length; s++) {
            E.fine(cap, "bestOf(" + s + ") of \"" + text + "\"", cap.bestOf(s), want[s]);
        }
        cap.lay(false);
        for (int s = 0; s < want.length; s++) {
            E.fine(cap, "laid, " + s, cap.service(s, 1), want[s]);
        }
    }

    @Says("BEST: the price of a SERVICE.")
    static void p16_mixedServices() {
        for (int k = 0; k < 4; k++) {
            int s = k;
            for (String text : Edges.MIXED) {
                E.asPlain("bestOf(" + s + ")", text, c -> c.bestOf(s), p -> p.bestOf(s));
            }
            E.asPlain("bestOf(" + s + ")", Edges.MIXED_FOUR, c -> c.bestOf(s), p -> p.bestOf(s));
        }
        // b has no weight and loses nothing from 3 on; of a and c 130 can be spent, the least of a first
        bests("service a price 5 size 30 slope 0 cost 3 quality 40 target 70;"
                + "service b price 8 size 5 slope 2 cost 4;service c price 4 size 10 slope 0 cost 1;due 2", 0, 3, 13);
    }

    @Says("NONE: 1.")
    static void p16_refusals() {
        E.outside("bestOf", 0, 1, (c, n) -> c.bestOf(n), 1);
        E.withoutText("bestOf(0)", c -> c.bestOf(0));
        E.refused("bestOf(4)", () -> Texts.of(Edges.flat(1, 0, 1, 1, 1, 1)), c -> c.bestOf(4), 1);
    }

    // ---- 17, 18

    @Says({"FAIR: GOOD together (may be below 0, likewise).", "FAIR: that of the greatest GOOD, of like ones the first."})
    static void p17_fairBelowZeroAndAtTheEnds() {
        BasketCap one = Texts.of(LOSS);
        E.fine(one, "-1", one.fair(), -1);
        BasketCap four = Texts.of(LOSS + ";" + LOSS.replace(" a ", " b ") + ";" + LOSS.replace(" a ", " c ") + ";"
                + LOSS.replace(" a ", " d "));
        E.fine(four, "-4", four.fair(), -4);
        BasketCap most = Texts.of(Edges.flat(20, 0, 200, 200, 200, 200));
        E.fine(most, "the most", most.fair(), 16000);
        BasketCap less = Texts.of("service a price 0 size 180 slope 9 cost 20");
        // of 171, 162, .., 9 together 1710; 180 at a loss of 20 each
        E.fine(less, "far below 0", less.fair(), 1710 - 3600);
        less.become(0, 50);
        E.fine(less, "an index of BASE 0", less.fair(), 1710 - 3600);
        E.onlyAnswers("fair()", c -> c.fair());
    }

    @Says("FAIR: GOOD together")
    static void p17_knownAnewBehindEachAct() {
        // GOOD is -5 at 0 and more by 6 less p at each p up to 6
        BasketCap cap = Texts.of("service a price 2 size 10 slope 1 cost 5 quality 0 target 1");
        int[] good = {-5, 0, 4, 7, 9, 10, 10};
        E.fine(cap, "at 2", cap.fair(), good[2]);
        cap.become(3, 8);
        E.fine(cap, "a due: 8 of 16", cap.fair(), good[1]);
        cap.quality(0, 1);
        E.fine(cap, "a quality", cap.fair(), good[2]);
        cap.become(0, 50);
        E.fine(cap, "an index: 24", cap.fair(), good[3]);
        cap.keep(0);
        cap.price(0, 3);
        cap.year(false);
        E.fine(cap, "a year: 31 of 7 each", cap.fair(), good[4]);
        cap.undo();
        E.fine(cap, "undone", cap.fair(), good[3]);
        cap.become(1, 50);
        E.fine(cap, "an x", cap.fair(), good[2]);
        cap.back(0);
        E.fine(cap, "back", cap.fair(), good[3]);
        E.fine(cap, "laid", cap.lay(true), 24);
        Texts.load(cap, "service a price 0 size 1 slope 1 cost 1");
        E.fine(cap, "a text", cap.fair(), -1);
    }

    @Says("NONE: 1 (no TEXT).")
    static void p17_refusals() {
        E.withoutText("fair()", c -> c.fair());
    }

    @Says({"FAIR: the price of a SERVICE.", "of like ones the first."})
    static void p18_ofLikeRowsTheFirst() {
        fairs(TEN, 0, 0);
        fairs(Edges.flat(20, 0, 200, 200, 200, 200), 0, 0, 0, 0);
        // GOOD 72 at 1 and at 2; at 0 it is 90 - 20
        fairs(LIGHT, 1);
        fairs("service a price 2 size 20 slope 2 cost 1;service b price 2 size 20 slope 2 cost 1", 1, 1);
        // GOOD rises up to the cost and is the same at 1 more
        fairs("service a price 9 size 100 slope 5 cost 9", 9);
        fairs("service a price 9 size 100 slope 5 cost 9;index 50", 9);
        fairs("service a price 9 size 100 slope 5 cost 9;x 1", 8);
        // each step up gains less than the one ahead: 1, 1 rather than 0, 2
        fairs("service a price 1 size 100 slope 5 cost 9;service b price 1 size 100 slope 5 cost 9", 1, 1);
        // room for one step of either, alike: 0, 1 ahead of 1, 0
        fairs("service a price 1 size 105 slope 5 cost 9;service b price 0 size 100 slope 5 cost 9", 0, 1);
        E.onlyAnswers("fairOf(1)", c -> c.fairOf(1));
    }

    private static void fairs(String text, int... want) {
        BasketCap cap = Texts.of(text);
        for (int s = 0; s < want.length; s++) {
            E.fine(cap, "fairOf(" + s + ") of \"" + text + "\"", cap.fairOf(s), want[s]);
        }
    }

    @Says("FAIR: the price of a SERVICE.")
    static void p18_mixedServices() {
        for (int k = 0; k < 4; k++) {
            int s = k;
            for (String text : Edges.MIXED) {
                E.asPlain("fairOf(" + s + ")", text, c -> c.fairOf(s), p -> p.fairOf(s));
            }
            E.asPlain("fairOf(" + s + ")", Edges.MIXED_FOUR, c -> c.fairOf(s), p -> p.fairOf(s));
        }
    }

    @Says("NONE: 1.")
    static void p18_refusals() {
        E.outside("fairOf", 0, 1, (c, n) -> c.fairOf(n), 1);
        E.withoutText("fairOf(0)", c -> c.fairOf(0));
    }

    // ---- 19

    @Says({"How many ROWS there are by which the cap would be KEPT.", "ROWS of prices (0 .. 20 for each SERVICE)"})
    static void p19_fromOneRowToAll() {
        int all = 1;
        int[][] sizes = {{1}, {1, 1}, {1, 1, 1}, {1, 1, 1, 1}};
        int[] few = {2, 6, 20, 70};
        for (int n = 0; n < 4; n++) {
            all *= 21;
            rows(Edges.flat(0, 0, sizes[n]), 1);
            rows(Edges.flat(1, 0, sizes[n]), few[n]);
            rows(Edges.flat(20, 0, sizes[n]), all);
            rows(Edges.flat(20, 0, sizes[n]) + ";index 50", all);
            rows(Edges.flat(20, 0, sizes[n]) + ";x 1", all - 1);
            rows(Edges.flat(5, 0, new int[n + 1]), all);
        }
        rows(Edges.flat(5, 0, 1), 6);
        rows(Edges.flat(5, 0, 1) + ";x 1", 5);
        rows(Edges.flat(3, 0, 0, 7), 21 * 4);
        rows(Edges.flat(3, 0, 7, 0), 21 * 4);
        rows(Edges.flat(3, 0, 0, 7, 0), 21 * 21 * 4);
        E.onlyAnswers("rows()", c -> c.rows());
    }

    private static void rows(String text, int want) {
        BasketCap cap = Texts.of(text);
        E.fine(cap, "rows() of \"" + text + "\"", cap.rows(), want);
        cap.price(0, 20);
        E.fine(cap, "rows() then", cap.rows(), want);
    }

    @Says("How many ROWS there are by which the cap would be KEPT.")
    static void p19_knownAnewBehindEachAct() {
        BasketCap cap = Texts.of(Edges.flat(10, 0, 1) + " quality 0 target 1");
        E.fine(cap, "rows()", cap.rows(), 11);
        cap.become(3, 4);
        E.fine(cap, "a due", cap.rows(), 7);
        cap.quality(0, 2);
        E.fine(cap, "a quality", cap.rows(), 11);
        cap.price(0, 8);
        cap.year(false);
        E.fine(cap, "a year: 8 and 1 carried", cap.rows(), 10);
        cap.undo();
        E.fine(cap, "undone", cap.rows(), 11);
    }

    @Says("How many ROWS there are by which the cap would be KEPT.")
    static void p19_mixedServices() {
        for (String text : Edges.MIXED) {
            E.asPlain("rows()", text, c -> c.rows(), p -> p.rows());
        }
        E.asPlain("rows()", Edges.MIXED_FOUR, c -> c.rows(), p -> p.rows());
    }

    @Says("NONE: 1 (no TEXT).")
    static void p19_refusals() {
        E.withoutText("rows()", c -> c.rows());
    }

    // ---- 20

    @Says({"How many prices there are of a SERVICE by which, all other NEW prices as they are,",
        "PROFIT of all is no less than now and the cap is KEPT."})
    static void p20_fromNoneToAll() {
        for (int p = 0; p <= 20; p++) {
            BasketCap cap = with(Edges.flat(5, 0, 1), p);
            E.fine(cap, "freely(0) at " + p, cap.freely(0), p <= 5 ? 6 - p : 0);
        }
        BasketCap none = Texts.of(Edges.flat(5, 3, 0));
        E.fine(none, "all alike", none.freely(0), 21);
        BasketCap high = with(Edges.flat(20, 0, 1), 0);
        E.fine(high, "all are more", high.freely(0), 21);
        BasketCap other = with(TEN, 0, 11);
        E.fine(other, "the other breaks the cap", other.freely(0), 0);
        other.price(1, 10);
        E.fine(other, "0 alone keeps it", other.freely(0), 1);
        BasketCap like = with(LIGHT, 6);
        E.fine(like, "5 is no less", like.freely(0), 2);
        like.price(0, 7);
        E.fine(like, "4 to 7", like.freely(0), 4);
        E.onlyAnswers("freely(0)", c -> c.freely(0));
    }

    @Says({"How many prices there are of a SERVICE by which, all other NEW prices as they are,",
        "PROFIT of all is no less than now and the cap is KEPT."})
    static void p20_mixedServices() {
        // beside 3 and 4 of 1 each, ALLOWED 19: c, of 2 each, may have 0 .. 6
        BasketCap cap = with(Edges.flat(5, 0, 1, 1, 2) + ";x 2", 3, 4, 2);
        E.fine(cap, "freely(2)", cap.freely(2), 5);
        E.fine(cap, "freely(1)", cap.freely(1), 9);
        E.fine(cap, "freely(0)", cap.freely(0), 9);
        for (String text : Edges.MIXED) {
            for (int k = 0; k < 3; k++) {
                int s = k;
                E.asPlain("freely(" + s + ")", text, c -> c.freely(s), p -> p.freely(s));
            }
        }
    }

    @Says("NONE: 1.")
    static void p20_refusals() {
        E.outside("freely", 0, 1, (c, n) -> c.freely(n), 1);
        E.withoutText("freely(0)", c -> c.freely(0));
    }

    // ---- 21

    @Says({"THE GAME: 0 PROFIT of both YEARS (may be below 0, likewise), 1 the SERVICE, 2 its price,",
        "3 PROFIT of the first one alone (likewise)."})
    static void p21_gamesBelowZero() {
        games(Texts.of(Edges.flat(0, 1, 1)), -2, 0, 0, -1);
        games(Texts.of(LOSS), -2, 0, 0, -1);
        // b, of no weight at 20, may have 1 of profit this year or the next: -1 in all, the first way is told
        games(Texts.of(LOSS + ";service b price 20 size 2 slope 1 cost 0 quality 0 target 1;due 1"), -1, 0, 0, -1);
        games(Texts.of(Edges.flat(0, 20, 200, 200, 200, 200)), -32000, 0, 0, -16000);
        for (int i = 0; i < 4; i++) {
            int what = i;
            E.onlyAnswers("game(" + i + ")", c -> c.game(what));
        }
    }

    private static void games(BasketCap cap, int... want) {
        for (int what = 0; what < 4; what++) {
            E.fine(cap, "game(" + what + ")", cap.game(what), want[what]);
        }
    }

    @Says({"THE GAME: this YEAR one SERVICE has some price, all others NEW prices as they are, the cap KEPT; it ends so;",
        "(NEW prices as they are may be one of these.)"})
    static void p21_newPricesAsTheyAreAndOthers() {
        games(Texts.of(Edges.flat(5, 0, 1)), 10, 0, 5, 5);
        games(with(Edges.flat(5, 0, 1), 2), 10, 0, 5, 5);
        games(with(Edges.flat(5, 0, 1), 20), 10, 0, 5, 5);
        games(with(Edges.flat(20, 0, 1), 0), 40, 0, 20, 20);
        games(Texts.of(Edges.flat(20, 0, 1) + ";x 1"), 19 + 18, 0, 19, 19);
        // only one goes: beside 20 and 20 none, beside 10 the other may have 0
        games(with(TEN, 10, 20), 20, 1, 0, 10);
        games(with(TEN, 20, 10), 20, 0, 0, 10);
        games(with(TEN, 3, 4), 20, 0, 6, 10);
    }

    @Says("PROFIT of both YEARS together the greatest; of like ones the least SERVICE, then the least price.")
    static void p21_ofLikeGamesTheFirst() {
        games(Texts.of(TEN), 20, 0, 5, 10);
        games(Texts.of(Edges.flat(7, 0, 0, 0)), 0, 0, 0, 0);
        games(Texts.of(Edges.flat(0, 0, 1, 1)), 0, 0, 0, 0);
        // ALLOWED 31, then 32, but 30 alone can be spent in threes, whichever of the two is told
        games(Texts.of(Edges.flat(5, 0, 3, 3) + ";index 4"), 60, 0, 5, 30);
        games(Texts.of(Edges.flat(5, 0, 0, 3, 3) + ";index 4"), 60, 0, 0, 30);
        // this year 5 or 6, the next by their weights 10 or 8 and BASE 50 or 48: 6 at 8, 5 at 10 alike
        games(Texts.of(LIGHT), 80, 0, 5, 40);
    }

    @Says({"the next YEAR (QUALITY, INDEX as now) has its BEST", "it ends so;"})
    static void p21_theNextYearWithQualityAndIndexAsNow() {
        BasketCap cap = Texts.of(Edges.flat(10, 0, 10) + " quality 0 target 1;due 10;carry 0");
        games(cap, 90 + 80, 0, 9, 90);
        cap.quality(0, 1);
        games(cap, 200, 0, 10, 100);
        cap.become(0, 50);
        games(cap, 150 + 200, 0, 15, 150);
        cap.become(1, 50);
        cap.become(2, 100);
        games(cap, 200, 0, 10, 100);
        cap.quality(0, 0);
        cap.become(3, 99);
        games(cap, 0, 0, 0, 0);
    }

    @Says("PROFIT of both YEARS together the greatest")
    static void p21_mixedServices() {
        for (String text : Edges.MIXED) {
            for (int k = 0; k < 4; k++) {
                int what = k;
                E.asPlain("game(" + what + ")", text, c -> c.game(what), p -> p.game(what));
            }
        }
    }

    @Says("NONE: 1 (no TEXT, what); 6 (no such price keeps the cap).")
    static void p21_refusals() {
        E.outside("game", 0, 3, (c, n) -> c.game(n), 1);
        E.withoutText("game(0)", c -> c.game(0));
        for (int what = 0; what < 4; what++) {
            int w = what;
            E.refused("game(" + w + ") beside 11", () -> with(TEN, 11, 11), c -> c.game(w), 6);
            E.refused("game(" + w + ") of three", () -> with(Edges.flat(3, 0, 1, 1, 1), 5, 5, 5), c -> c.game(w), 6);
        }
        E.refused("game(4) where none keeps the cap", () -> with(TEN, 11, 11), c -> c.game(4), 1);
        BasketCap cap = with(TEN, 11, 11);
        cap.game(0);
        cap.price(1, 10);
        games(cap, 20, 0, 0, 10);
        cap.undo();
        E.due("none again", cap.game(0), Edges.NONE);
        E.due("trouble()", cap.trouble(), 6);
        BasketCap alone = with(LOSS, 20);
        E.fine(alone, "a service alone always has 0", alone.game(2), 0);
    }

    @Says("(On paper a YEAR ends behind 99, too.)")
    static void p21_theGameBehind99() {
        BasketCap cap = atYear99(Edges.flat(5, 0, 1));
        E.due("year()", cap.year(false), Edges.NONE);
        games(cap, 10, 0, 5, 5);
        E.due("the year stays", cap.about(1), 99);
    }

    // ---- 22

    @Says({"PATH of n YEARS (1 .. 8): 0 PROFIT, 1 GOOD of all these, together (may be below 0, likewise),",
        "PATH of n YEARS: from now on each YEAR ends with its BEST."})
    static void p22_oneToEightYears() {
        BasketCap loss = Texts.of(LOSS);
        BasketCap still = Texts.of(Edges.flat(5, 0, 9));
        BasketCap down = Texts.of(Edges.flat(20, 0, 10) + ";x 5;carry 0");
        int sum = 0;
        for (int n = 1; n <= 8; n++) {
            sum += 10 * (20 - n);
            E.fine(loss, "PROFIT below 0", loss.path(n, 0), -n);
            E.fine(loss, "GOOD below 0", loss.path(n, 1), -n);
            E.fine(still, "PROFIT", still.path(n, 0), 45 * n);
            E.fine(still, "GOOD", still.path(n, 1), 180 * n);
            E.fine(down, "PROFIT", down.path(n, 0), sum);
            E.fine(down, "GOOD", down.path(n, 1), 200 * n);
        }
        for (int n = 8; n >= 1; n--) {
            E.fine(down, "asked from the eighth on", down.path(n, 2), 20 - n);
        }
        for (int what = 0; what < 4; what++) {
            int w = what;
            E.onlyAnswers("path(8, " + w + ")", c -> c.path(8, w));
            E.onlyAnswers("path(1, " + w + ")", c -> c.path(1, w));
        }
    }

    @Says({"2 OFF of PRICES behind them, 3 how many YEARS have other PRICES than the one ahead."})
    static void p22_offAndHowOftenPricesChange() {
        BasketCap still = Texts.of(Edges.flat(5, 2, 9));
        BasketCap down = Texts.of(Edges.flat(20, 0, 10) + ";x 5;carry 0");
        BasketCap once = Texts.of(TEN);
        for (int n = 1; n <= 8; n++) {
            E.fine(still, "OFF", still.path(n, 2), 3);
            E.fine(still, "no other", still.path(n, 3), 0);
            E.fine(down, "OFF", down.path(n, 2), 20 - n);
            E.fine(down, "each year others", down.path(n, 3), n);
            E.fine(once, "OFF", once.path(n, 2), 10);
            E.fine(once, "the first year alone", once.path(n, 3), 1);
        }
        BasketCap below = Texts.of(Edges.flat(0, 20, 1, 1, 1, 1));
        E.fine(below, "the most OFF", below.path(8, 2), 80);
    }

    @Says("PATH of n YEARS: from now on each YEAR ends with its BEST.")
    static void p22_fromNowOn() {
        BasketCap cap = Texts.of(Edges.flat(10, 0, 10) + ";carry 100");
        cap.price(0, 7);
        E.fine(cap, "NEW prices don't count", cap.path(1, 0), 100);
        cap.year(false);
        E.fine(cap, "with what is carried", cap.path(1, 0), 100);
        E.fine(cap, "and two years", cap.path(2, 0), 200);
        cap.become(0, 50);
        E.fine(cap, "an index", cap.path(1, 0), 130);
        cap.undo();
        E.fine(cap, "undone", cap.path(1, 0), 100);
        cap.quality(0, 5);
        E.fine(cap, "a quality", cap.path(2, 0), 200);
    }

    @Says({"2 OFF of PRICES behind them, 3 how many YEARS have other PRICES than the one ahead."})
    static void p22_newPricesAsTheyAreDoNotCount() {
        BasketCap cap = with(TEN, 0, 10);
        E.fine(cap, "other PRICES than those told", cap.path(1, 3), 1);
        E.fine(cap, "and then none", cap.path(8, 3), 1);
        BasketCap away = with(Edges.flat(5, 2, 9), 20);
        E.fine(away, "none", away.path(8, 3), 0);
        E.fine(away, "OFF", away.path(8, 2), 3);
    }

    @Says("PATH of n YEARS: from now on each YEAR ends with its BEST.")
    static void p22_mixedServices() {
        for (String text : Edges.MIXED) {
            for (int k = 0; k < 4; k++) {
                int what = k;
                E.asPlain("path(1, " + what + ")", text, c -> c.path(1, what), p -> p.path(1, what));
                E.asPlain("path(8, " + what + ")", text, c -> c.path(8, what), p -> p.path(8, what));
            }
        }
    }

    @Says("NONE: 1 (no TEXT, what); 2.")
    static void p22_refusals() {
        E.outside("path(1, ..)", 0, 3, (c, n) -> c.path(1, n), 1);
        E.outside("path(.., 0)", 1, 8, (c, n) -> c.path(n, 0), 2);
        E.outside("path(.., 3)", 1, 8, (c, n) -> c.path(n, 3), 2);
        E.refused("path(9, 4)", c -> c.path(9, 4), 1);
        E.refused("path(0, -1)", c -> c.path(0, -1), 1);
        E.withoutText("path(9, 0)", c -> c.path(9, 0));
        E.withoutText("path(1, 0)", c -> c.path(1, 0));
    }

    @Says("(On paper a YEAR ends behind 99, too.)")
    static void p22_pathBehind99() {
        BasketCap cap = atYear99(Edges.flat(20, 0, 10) + ";carry 0");
        cap.become(1, 5);
        for (int n = 1; n <= 8; n++) {
            E.fine(cap, "OFF", cap.path(n, 2), 20 - n);
        }
        E.due("the year stays", cap.about(1), 99);
        E.due("the book", cap.book(99, 0), Edges.NONE);
    }
}
