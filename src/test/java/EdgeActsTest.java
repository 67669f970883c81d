/** Promises 39 to 46, boundary by boundary: acts, the last year, what undoes acts, images. */
public final class EdgeActsTest {
    private static final Edges E = new Edges("EdgeActsTest");
    /** ALLOWED 10, each WEIGHT 1. */
    private static final String TEN = Edges.flat(5, 0, 1, 1);

    public static void main(String[] args) throws Exception {
        E.run(EdgeActsTest.class);
    }

    private static BasketCap with(String text, int... fresh) {
        BasketCap cap = Texts.of(text);
        for (int s = 0; s < fresh.length; s++) {
            cap.price(s, fresh[s]);
        }
        return cap;
    }

    private static BasketCap atYear99() {
        BasketCap cap = Texts.of(TEN);
        for (int y = 0; y < 99; y++) {
            cap.year(false);
        }
        cap.write();
        cap.keep(1);
        return cap;
    }

    // ---- 39

    @Says("ACT: the NEW price of a SERVICE (0 .. 20): what it was.")
    static void p39_fromZeroToTwenty() {
        BasketCap cap = Texts.of(Edges.flat(7, 0, 1, 1, 1, 1));
        for (int s = 0; s < 4; s++) {
            int was = 7;
            for (int p : new int[] {0, 20, 20, 1, 19, 0}) {
                E.fine(cap, "price(" + s + ", " + p + ")", cap.price(s, p), was);
                E.due("NEW price", cap.service(s, 1), p);
                E.due("PRICE stays", cap.service(s, 0), 7);
                was = p;
            }
            for (int other = s + 1; other < 4; other++) {
                E.due("the others stay", cap.service(other, 1), 7);
            }
        }
        E.undone("price(0, 20)", c -> c.price(0, 20));
        E.undone("price(1, 0)", c -> c.price(1, 0));
        E.undone("a price as it is", c -> c.price(1, c.service(1, 1)));
    }

    @Says("NONE: 1; 2.")
    static void p39_refusals() {
        E.outside("price(.., 0)", 0, 1, (c, n) -> c.price(n, 0), 1);
        E.outside("price(1, ..)", 0, 20, (c, n) -> c.price(1, n), 2);
        E.refused("price(2, 21)", c -> c.price(2, 21), 1);
        E.refused("price(-1, -1)", c -> c.price(-1, -1), 1);
        E.withoutText("price(0, 0)", c -> c.price(0, 0));
        E.withoutText("price(0, 21)", c -> c.price(0, 21));
    }

    // ---- 40

    @Says("ACT: all NEW prices are BEST (fair: FAIR): SPENT then.")
    static void p40_bestOrFair() {
        BasketCap cap = with(TEN, 20, 20);
        E.fine(cap, "lay(false)", cap.lay(false), 10);
        E.due("a", cap.service(0, 1), 0);
        E.due("b", cap.service(1, 1), 10);
        E.fine(cap, "lay(true)", cap.lay(true), 0);
        E.due("a", cap.service(0, 1), 0);
        E.due("b", cap.service(1, 1), 0);
        E.due("acts", cap.about(9), 4);
        E.due("PRICES stay", cap.service(0, 0), 5);
        E.due("trade", cap.trade(0), 1);
        BasketCap zero = Texts.of(Edges.flat(0, 3, 5));
        E.fine(zero, "nothing spent", zero.lay(false), 0);
        BasketCap most = Texts.of(Edges.flat(20, 0, 200, 200, 200, 200));
        E.fine(most, "the most", most.lay(false), 16000);
        // the game, next and trade are those of the NEW prices then
        BasketCap again = with(TEN, 20, 20);
        E.due("no game", again.game(0), Edges.NONE);
        E.due("next()", again.next(), 0);
        again.lay(false);
        E.fine(again, "a game", again.game(0), 20);
        E.fine(again, "next()", again.next(), 10);
        E.undone("lay(false)", c -> c.lay(false));
        E.undone("lay(true)", c -> c.lay(true));
    }

    @Says("NONE: 1 (no TEXT).")
    static void p40_refusals() {
        E.withoutText("lay(false)", c -> c.lay(false));
        E.withoutText("lay(true)", c -> c.lay(true));
    }

    // ---- 41

    @Says("ACT: QUALITY of a SERVICE (0 .. 99): what it was.")
    static void p41_fromZeroTo99() {
        BasketCap cap = Texts.of(TEN + " quality 7 target 50;due 1");
        int was = 7;
        for (int v : new int[] {0, 99, 99, 1, 98, 50, 49}) {
            E.fine(cap, "quality(1, " + v + ")", cap.quality(1, v), was);
            E.due("QUALITY", cap.service(1, 5), v);
            E.due("DUES", cap.about(5), Math.max(0, 50 - v));
            E.due("the other's", cap.service(0, 5), 0);
            was = v;
        }
        cap.year(false);
        E.due("it stays behind a year", cap.service(1, 5), 49);
        E.undone("quality(0, 99)", c -> c.quality(0, 99));
        E.undone("quality(1, 0)", c -> c.quality(1, 0));
    }

    @Says("NONE: 1; 2.")
    static void p41_refusals() {
        E.outside("quality(.., 0)", 0, 1, (c, n) -> c.quality(n, 0), 1);
        E.outside("quality(1, ..)", 0, 99, (c, n) -> c.quality(1, n), 2);
        E.refused("quality(2, 100)", c -> c.quality(2, 100), 1);
        E.withoutText("quality(0, 100)", c -> c.quality(0, 100));
    }

    // ---- 42

    @Says("ACT: INDEX (what 0, 0 .. 50), X (1, 0 .. 50), CARRY (2, 0 .. 100), DUE (3, 0 .. 99): what it was.")
    static void p42_fromZeroToTheMost() {
        int[] most = {50, 50, 100, 99};
        for (int i = 0; i < 4; i++) {
            int what = i;
            BasketCap cap = Edges.young();
            int was = new int[] {10, 5, 20, 6}[i];
            for (int v : new int[] {0, most[i], 1, most[i] - 1}) {
                E.fine(cap, "become(" + i + ", " + v + ")", cap.become(i, v), was);
                for (int k = 0; k < 4; k++) {
                    E.due("rule(" + k + ")", cap.rule(k), k == i ? v : new int[] {10, 5, 20, 6}[k]);
                }
                was = v;
            }
            E.undone("become(" + i + ", 0)", c -> c.become(what, 0));
            E.undone("become(" + i + ", " + most[i] + ")", c -> c.become(what, most[what]));
        }
    }

    @Says("NONE: 1 (no TEXT, what); 2.")
    static void p42_refusals() {
        E.outside("become(.., 0)", 0, 3, (c, n) -> c.become(n, 0), 1);
        E.outside("become(0, ..)", 0, 50, (c, n) -> c.become(0, n), 2);
        E.outside("become(1, ..)", 0, 50, (c, n) -> c.become(1, n), 2);
        E.outside("become(2, ..)", 0, 100, (c, n) -> c.become(2, n), 2);
        E.outside("become(3, ..)", 0, 99, (c, n) -> c.become(3, n), 2);
        E.refused("become(4, 101)", c -> c.become(4, 101), 1);
        E.refused("become(-1, -1)", c -> c.become(-1, -1), 1);
        E.withoutText("become(0, 0)", c -> c.become(0, 0));
        E.withoutText("become(0, 51)", c -> c.become(0, 51));
    }

    // ---- 43

    @Says({"ACT: the YEAR ends (with a cap that isn't KEPT if it is forced): which it is then.",
        "NEW prices are PRICES then; the next YEAR begins."})
    static void p43_keptOrForced() {
        BasketCap kept = with(TEN, 6, 4);
        E.fine(kept, "just kept", kept.year(false), 1);
        E.due("PRICE a", kept.service(0, 0), 6);
        E.due("PRICE b", kept.service(1, 0), 4);
        E.due("NEW a", kept.service(0, 1), 6);
        BasketCap forced = with(TEN, 6, 5);
        E.fine(forced, "forced", forced.year(true), 1);
        E.due("CARRIED", forced.carried(0), -2);
        BasketCap both = with(TEN, 6, 4);
        E.fine(both, "kept and forced", both.year(true), 1);
        E.due("CARRIED", both.carried(0), 0);
        E.undone("year(true)", c -> c.year(true));
        E.undone("year(true) of prices that are kept", c -> {
            c.year(true);
            c.undo();
            return c.year(true);
        });
    }

    @Says("NONE: 1 (no TEXT); 5 (the cap isn't KEPT and it isn't forced; it is 99).")
    static void p43_refusals() {
        E.withoutText("year(false)", c -> c.year(false));
        E.withoutText("year(true)", c -> c.year(true));
        E.refused("year(false), one above", () -> with(TEN, 6, 5), c -> c.year(false), 5);
        E.refused("year(false) of a young one", Edges::young, c -> c.year(false), 5);
        E.refused("year(false) of a rich one", Edges::rich, c -> c.year(false), 5);
        BasketCap cap = with(TEN, 6, 5);
        cap.year(false);
        E.due("no act", cap.about(9), 2);
        E.due("no year", cap.about(1), 0);
    }

    @Says({"A YEAR ends (not above 99)", "it is 99"})
    static void p43_notAbove99() {
        BasketCap cap = Texts.of(TEN);
        for (int y = 1; y <= 99; y++) {
            E.fine(cap, "year()", cap.year(y % 3 == 0), y);
        }
        E.refused("year(false) of 99", EdgeActsTest::atYear99, c -> c.year(false), 5);
        E.refused("year(true) of 99", EdgeActsTest::atYear99, c -> c.year(true), 5);
        E.fine(cap, "undo()", cap.undo(), 9);
        E.due("98", cap.about(1), 98);
        E.fine(cap, "the last again", cap.year(false), 99);
        E.due("book(98, 0)", cap.book(98, 0), 10);
        E.due("acts still", cap.price(0, 1), 5);
        E.due("about(9)", cap.about(9), 10);
    }

    // ---- 44

    @Says({"The latest ACT is undone: how many still can be.",
        "III. ACTS (calls that say so); the latest 10 that weren't refused can be undone, the latest first"})
    static void p44_theLatestTenTheLatestFirst() {
        for (int acts = 0; acts <= 25; acts++) {
            BasketCap cap = Texts.of(Edges.flat(5, 0, 9) + " quality 0 target 99;due 99");
            for (int i = 1; i <= acts; i++) {
                act(cap, i);
                cap.price(0, 21);
                cap.year(false);
            }
            E.due("about(9)", cap.about(9), Math.min(acts, 10));
            for (int i = acts - 1; i >= acts - 10 && i >= 0; i--) {
                E.fine(cap, "undo()", cap.undo(), Math.min(acts, 10) - acts + i);
                E.due("as behind act " + i, mark(cap), i);
            }
            E.due("no more", cap.undo(), Edges.NONE);
            E.due("trouble()", cap.trouble(), 5);
            E.due("it stays", mark(cap), Math.max(0, acts - 10));
        }
    }

    /** Acts in turn that leave their number behind; the cap is never kept by them. */
    private static void act(BasketCap cap, int i) {
        switch (i % 3) {
            case 0 -> cap.quality(0, i);
            case 1 -> cap.become(0, i);
            default -> cap.become(1, i);
        }
    }

    private static int mark(BasketCap cap) {
        return Math.max(cap.service(0, 5), Math.max(cap.rule(0), cap.rule(1)));
    }

    @Says("the latest 10 that weren't refused can be undone, the latest first")
    static void p44_actsAndUndoingByTurns() {
        int[][] turns = {{7, 3}, {9, 10}, {4, 4}, {15, 6}, {2, 2}, {6, 10}, {1, 1}, {10, 10}, {11, 5}, {3, 8}};
        BasketCap cap = Texts.of(Edges.flat(9, 0, 1));
        java.util.ArrayDeque<Integer> past = new java.util.ArrayDeque<>();
        int price = 9;
        int next = 0;
        for (int[] t : turns) {
            for (int i = 0; i < t[0]; i++) {
                past.push(price);
                if (past.size() > 10) {
                    past.removeLast();
                }
                price = next++ % 21;
                cap.price(0, price);
            }
            for (int i = 0; i < t[1] && !past.isEmpty(); i++) {
                price = past.pop();
                E.fine(cap, "undo()", cap.undo(), past.size());
                E.due("NEW price", cap.service(0, 1), price);
            }
        }
    }

    @Says("NONE: 1 (no TEXT); 5.")
    static void p44_refusals() {
        E.withoutText("undo()", c -> c.undo());
        E.refused("undo() of a young one", Edges::young, c -> c.undo(), 5);
        E.refused("undo() behind all", () -> {
            BasketCap cap = Edges.busy();
            for (int i = 0; i < 4; i++) {
                cap.undo();
            }
            return cap;
        }, c -> c.undo(), 5);
        E.refused("undo() behind back()", () -> {
            BasketCap cap = Edges.busy();
            cap.back(0);
            return cap;
        }, c -> c.undo(), 5);
    }

    @Says("The latest ACT is undone")
    static void p44_aYearIsUndoneWithItsBook() {
        BasketCap cap = with(TEN, 6, 4);
        cap.year(false);
        cap.price(0, 9);
        cap.undo();
        cap.undo();
        E.due("the year", cap.about(1), 0);
        E.due("its book", cap.book(0, 0), Edges.NONE);
        E.due("trouble()", cap.trouble(), 1);
        E.due("PRICE", cap.service(0, 0), 5);
        E.due("NEW price", cap.service(0, 1), 6);
        cap.price(0, 1);
        cap.year(false);
        E.due("another year 0", cap.book(0, 0), 5);
    }

    // ---- 45, 46

    @Says({"IMAGE i (0, 1) is kept: true; false: 1 (no TEXT, too).",
        "IMAGES 0, 1 keep all that is told and was (THE BOOK, too)"})
    static void p45_keepingChangesNothing() {
        E.outside("keep", 0, 1, (c, n) -> c.keep(n), 1);
        E.withoutText("keep(0)", c -> c.keep(0));
        E.withoutText("keep(1)", c -> c.keep(1));
        for (int i = 0; i < 2; i++) {
            int at = i;
            BasketCap cap = Edges.young();
            cap.rule(4);
            E.due("keep(" + i + ")", cap.keep(i), true);
            E.due("trouble()", cap.trouble(), 0);
            E.due("no act", cap.about(9), 0);
            E.due("the other image", cap.back(1 - i), false);
            E.due("trouble()", cap.trouble(), 1);
            E.due("back(" + i + ")", cap.back(i), true);
            // an image that is as the object stands: keeping it again is seen nowhere
            E.due("kept twice", keptTwice(at), true);
        }
    }

    private static boolean keptTwice(int i) {
        BasketCap cap = Edges.rich();
        int acts = cap.about(9);
        int price = cap.service(0, 1);
        boolean kept = cap.keep(i) && cap.keep(i);
        return kept && cap.about(9) == acts && cap.service(0, 1) == price && cap.undo() == acts - 1;
    }

    @Says("BACK TO it: true; false: 1 (it wasn't kept, too).")
    static void p46_whatWasNotKept() {
        E.outside("back", 0, 1, (c, n) -> c.back(n), 1);
        E.withoutText("back(0)", c -> c.back(0));
        E.withoutText("back(1)", c -> c.back(1));
        E.refused("back(0) of none", Edges::young, c -> c.back(0), 1);
        E.refused("back(1) of none", Edges::young, c -> c.back(1), 1);
        E.refused("back(1) of 0 alone", () -> {
            BasketCap cap = with(TEN, 1, 2);
            cap.keep(0);
            return cap;
        }, c -> c.back(1), 1);
        E.refused("back(0) of 1 alone", EdgeActsTest::atYear99, c -> c.back(0), 1);
        E.refused("back(0) behind a text", () -> {
            BasketCap cap = Edges.busy();
            Edges.loadAnew(cap, TEN);
            return cap;
        }, c -> c.back(0), 1);
    }

    @Says({"BACK TO it: true", "BACK TO one it is as then, no ACT can be undone"})
    static void p46_asItWasThen() {
        BasketCap cap = with(TEN + " quality 9 target 9;due 2;carry 50", 4, 3);
        cap.year(false);
        cap.quality(1, 5);
        cap.become(0, 7);
        cap.price(0, 2);
        cap.keep(1);
        int[] about = new int[12];
        for (int i = 0; i < 12; i++) {
            about[i] = cap.about(i);
        }
        int best = cap.best();
        int rows = cap.rows();
        int path = cap.path(8, 0);
        cap.lay(true);
        cap.year(true);
        cap.price(1, 20);
        cap.year(true);
        cap.quality(0, 50);
        cap.become(3, 99);
        cap.rule(9);
        E.due("back(1)", cap.back(1), true);
        E.due("trouble()", cap.trouble(), 0);
        for (int i = 0; i < 12; i++) {
            E.due("about(" + i + ")", cap.about(i), i == 9 ? 0 : about[i]);
        }
        E.due("best()", cap.best(), best);
        E.due("rows()", cap.rows(), rows);
        E.due("path(8, 0)", cap.path(8, 0), path);
        E.due("QUALITY", cap.service(1, 5), 5);
        E.due("QUALITY", cap.service(0, 5), 0);
        E.due("NEW price", cap.service(0, 1), 2);
        E.due("PRICE", cap.service(0, 0), 4);
        E.due("INDEX", cap.rule(0), 7);
        E.due("DUE", cap.rule(3), 2);
        E.due("CARRIED", cap.carried(0), 3);
        E.due("undo()", cap.undo(), Edges.NONE);
        E.due("trouble()", cap.trouble(), 5);
    }

    @Says("BACK TO one it is as then")
    static void p46_whatWasSoughtInBetweenIsForgotten() {
        BasketCap cap = with(TEN + ";buyer p 1,2;carry 50", 4, 3);
        String then = sought(cap);
        cap.keep(0);
        cap.year(false);
        cap.become(0, 50);
        cap.price(0, 0);
        String later = sought(cap);
        E.due("it is another year", later.equals(then), false);
        cap.back(0);
        E.due("back", sought(cap).equals(then), true);
        cap.price(1, 9);
        E.due("a price counts", sought(cap).equals(then), false);
        cap.back(0);
        E.due("back again", sought(cap).equals(then), true);
    }

    private static String sought(BasketCap cap) {
        int[] all = {cap.best(), cap.fair(), cap.rows(), cap.gentle(), cap.steady(2), cap.path(8, 0), cap.path(8, 1),
            cap.path(8, 2), cap.path(8, 3), cap.reach(3), cap.game(0), cap.game(1), cap.game(2), cap.game(3), cap.next(),
            cap.trade(0), cap.trade(1), cap.trade(2), cap.trade(3), cap.most(0), cap.freely(0), cap.hurt(),
            cap.level(0, 0), cap.share(0, 1)};
        return java.util.Arrays.toString(all);
    }

    @Says("no ACT can be undone (a TEXT leaves no IMAGE)")
    static void p46_actsBehindItCanBeUndone() {
        BasketCap cap = Edges.rich();
        cap.back(0);
        E.due("about(9)", cap.about(9), 0);
        int price = cap.service(0, 1);
        for (int i = 1; i <= 12; i++) {
            cap.price(0, i);
            E.due("about(9)", cap.about(9), Math.min(i, 10));
        }
        for (int i = 9; i >= 0; i--) {
            E.fine(cap, "undo()", cap.undo(), i);
        }
        E.due("no further than ten", cap.service(0, 1), 2);
        cap.back(0);
        E.due("the image stays", cap.service(0, 1), price);
    }

    @Says("IMAGES 0, 1 keep all that is told and was (THE BOOK, too)")
    static void p46_imagesStayAndAreApart() {
        BasketCap cap = with(TEN, 1, 1);
        cap.keep(0);
        cap.price(0, 2);
        cap.keep(1);
        for (int i = 0; i < 3; i++) {
            cap.price(0, 10 + i);
            cap.back(i % 2);
            E.due("NEW price of image " + i % 2, cap.service(0, 1), 1 + i % 2);
        }
        cap.price(0, 17);
        cap.keep(0);
        cap.back(1);
        E.due("image 1", cap.service(0, 1), 2);
        cap.back(0);
        E.due("image 0, kept anew", cap.service(0, 1), 17);
        Edges.loadAnew(cap, "?");
        E.due("a faulty text leaves them", cap.back(1), true);
        cap.text(999);
        E.due("a number too", cap.back(0), true);
        E.due("image 0", cap.service(0, 1), 17);
    }

    @Says("(THE BOOK, too)")
    static void p46_theBookOfAnImage() {
        BasketCap cap = with(TEN, 6, 4);
        cap.year(false);
        cap.price(0, 2);
        cap.year(false);
        cap.keep(0);
        int allowed = cap.book(1, 1);
        for (int i = 0; i < 5; i++) {
            cap.price(0, 20);
            cap.year(true);
        }
        cap.keep(1);
        cap.back(0);
        E.due("the year", cap.about(1), 2);
        E.due("book(0, 0)", cap.book(0, 0), 10);
        E.due("book(1, 1)", cap.book(1, 1), allowed);
        E.due("no more years", cap.book(2, 0), Edges.NONE);
        cap.back(1);
        E.due("the later year", cap.about(1), 7);
        E.due("book(6, 4)", cap.book(6, 4), 0);
        E.due("book(0, 0)", cap.book(0, 0), 10);
    }

    @Says("(THE BOOK, too)")
    static void p46_aBookThatWasWrittenAnewSince() {
        BasketCap cap = with(TEN, 6, 4);
        cap.year(false);
        cap.keep(0);
        cap.undo();
        cap.price(0, 0);
        cap.year(false);
        E.due("another year 0", cap.book(0, 0), 4);
        cap.back(0);
        E.due("that of the image", cap.book(0, 0), 10);
        E.due("its PRICE", cap.service(0, 0), 6);
        BasketCap last = atYear99();
        last.undo();
        last.price(0, 0);
        last.year(true);
        E.due("another year 98", last.book(98, 0), 5);
        last.back(1);
        E.due("that of the image", last.book(98, 0), 10);
        E.due("99", last.about(1), 99);
    }
}
