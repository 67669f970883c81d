/** Promises 13 to 22: how far prices may go, BEST, FAIR, ROWS, THE GAME, PATH. */
public final class PricesTest {
    private static final Check CHECK = new Check("PricesTest");
    private static final String LIKE = "service a price 4 size 20 slope 0 cost 0;service b price 4 size 10 slope 0 cost 0";

    public static void main(String[] args) {
        most();
        free();
        best();
        fair();
        rows();
        freely();
        game();
        gameThatGivesAYear();
        path();
        pathBehindTheLastYear();
        CHECK.end();
    }

    private static void most() {
        BasketCap cap = Texts.of(Check.A);
        CHECK.fine(cap, "13 most(0)", cap.most(0), 2);
        CHECK.fine(cap, "13 most(1)", cap.most(1), 4);
        cap.price(0, 20);
        CHECK.fine(cap, "13 by none", cap.most(1), -2);
        cap.price(0, 0);
        cap.price(1, 0);
        CHECK.fine(cap, "13 most(0) alone", cap.most(0), 15);
        CHECK.refused(cap, "13 most(2)", cap.most(2), 1);
        CHECK.refused(cap, "13 most(-1)", cap.most(-1), 1);
        // without weight any price keeps it, 20 is the greatest
        BasketCap none = Texts.of("service a price 5 size 0 slope 0 cost 0;service b price 4 size 9 slope 0 cost 0");
        CHECK.fine(none, "13 no weight", none.most(0), 20);
        none.price(1, 5);
        CHECK.fine(none, "13 no weight, but not kept", none.most(0), -2);
    }

    private static void free() {
        BasketCap cap = Texts.of(Check.A);
        CHECK.fine(cap, "14 free(0), 5 and 6 alike", cap.free(0), 5);
        CHECK.fine(cap, "14 free(1)", cap.free(1), 20);
        CHECK.refused(cap, "14 free(2)", cap.free(2), 1);
        BasketCap flat = Texts.of("service a price 5 size 0 slope 0 cost 7");
        CHECK.fine(flat, "14 all alike", flat.free(0), 0);
        BasketCap dear = Texts.of("service a price 5 size 18 slope 9 cost 20");
        CHECK.fine(dear, "14 nothing bought is best", dear.free(0), 2);
    }

    private static void best() {
        BasketCap cap = Texts.of(Check.A);
        CHECK.fine(cap, "15 best()", cap.best(), 106);
        CHECK.fine(cap, "16 bestOf(0)", cap.bestOf(0), 2);
        CHECK.fine(cap, "16 bestOf(1)", cap.bestOf(1), 5);
        CHECK.refused(cap, "16 bestOf(2)", cap.bestOf(2), 1);
        CHECK.refused(cap, "16 bestOf(-1)", cap.bestOf(-1), 1);
        cap.price(0, 9);
        CHECK.fine(cap, "15 best() doesn't hang on NEW prices", cap.best(), 106);
        cap.quality(1, 7);
        CHECK.fine(cap, "15 best() with 207", cap.best(), 136);
        cap.undo();
        CHECK.fine(cap, "15 best() as it was", cap.best(), 106);
        cap.become(0, 11);
        CHECK.fine(cap, "15 best() with 185", cap.best(), 106);
        BasketCap like = Texts.of(LIKE);
        CHECK.fine(like, "15 like rows", like.best(), 120);
        CHECK.fine(like, "16 of like ones the first", like.bestOf(0), 0);
        CHECK.fine(like, "16 of like ones the first", like.bestOf(1), 12);
        BasketCap below = Texts.of("service a price 0 size 9 slope 0 cost 3");
        CHECK.fine(below, "15 below 0", below.best(), -27);
        BasketCap one = Texts.of("service a price 0 size 1 slope 0 cost 1");
        CHECK.fine(one, "15 best() is -1", one.best(), -1);
    }

    private static void fair() {
        BasketCap cap = Texts.of(Check.A);
        CHECK.fine(cap, "17 fair()", cap.fair(), 612);
        CHECK.fine(cap, "18 fairOf(0), 1 and 2 alike", cap.fairOf(0), 1);
        CHECK.fine(cap, "18 fairOf(1), all alike", cap.fairOf(1), 0);
        CHECK.refused(cap, "18 fairOf(2)", cap.fairOf(2), 1);
        CHECK.refused(cap, "18 fairOf(-1)", cap.fairOf(-1), 1);
        BasketCap one = Texts.of("service a price 0 size 1 slope 1 cost 1");
        CHECK.fine(one, "17 fair() is -1", one.fair(), -1);
        CHECK.fine(one, "18 prices 0 alone", one.fairOf(0), 0);
        BasketCap less = Texts.of("service a price 0 size 1 slope 0 cost 20;service b price 0 size 1 slope 1 cost 1");
        CHECK.fine(less, "17 fair() is -1 of both", less.fair(), -1);
    }

    private static void rows() {
        BasketCap cap = Texts.of(Check.A);
        CHECK.fine(cap, "19 rows()", cap.rows(), 58);
        cap.become(3, 99);
        CHECK.fine(cap, "19 rows() with ALLOWED 0", cap.rows(), 1);
        BasketCap all = Texts.of(four(0, 0));
        CHECK.fine(all, "19 all rows", all.rows(), 194481);
        BasketCap wide = Texts.of(four(9, 20));
        CHECK.fine(wide, "19 all rows, just allowed", wide.rows(), 194481);
        wide.become(1, 10);
        // a tenth of 720 less is 8 steps of 9 less: all rows but the 330 that are up to 7 steps below the top one
        CHECK.fine(wide, "19 rows()", wide.rows(), 194481 - 330);
    }

    private static String four(int size, int price) {
        StringBuilder b = new StringBuilder();
        for (char c = 'a'; c <= 'd'; c++) {
            b.append("service ").append(c).append(" price ").append(price).append(" size ").append(size)
                    .append(" slope 0 cost 3;");
        }
        return b.substring(0, b.length() - 1);
    }

    private static void freely() {
        BasketCap cap = Texts.of(Check.A);
        CHECK.fine(cap, "20 none keeps the cap", cap.freely(0), 0);
        CHECK.fine(cap, "20 none keeps the cap", cap.freely(1), 0);
        cap.price(1, 3);
        // tea up to 7; no less than 36: 4, 5, 6, 7
        CHECK.fine(cap, "20 freely(0)", cap.freely(0), 4);
        cap.price(0, 5);
        CHECK.fine(cap, "20 like ones count", cap.freely(0), 2);
        CHECK.fine(cap, "20 freely(1)", cap.freely(1), 2);
        CHECK.refused(cap, "20 freely(2)", cap.freely(2), 1);
        CHECK.refused(cap, "20 freely(-1)", cap.freely(-1), 1);
    }

    private static void game() {
        BasketCap cap = Texts.of("service a price 2 size 10 slope 1 cost 0;carry 0");
        int[] want = {32, 0, 2, 16};
        for (int i = 0; i < 4; i++) {
            CHECK.fine(cap, "21 game(" + i + ")", cap.game(i), want[i]);
        }
        CHECK.refused(cap, "21 game(4)", cap.game(4), 1);
        CHECK.refused(cap, "21 game(-1)", cap.game(-1), 1);
        // no price of one service alone keeps the cap
        BasketCap none = Texts.of(LIKE);
        none.price(0, 20);
        none.price(1, 20);
        CHECK.refused(none, "21 no such price", none.game(0), 6);
        CHECK.refused(none, "21 what comes first", none.game(4), 1);
        none.price(0, 6);
        // b at 0: 120 and, of weights alike, 120 of ALLOWED 120; carried 0
        CHECK.fine(none, "21 game(1)", none.game(1), 1);
        CHECK.fine(none, "21 game(2)", none.game(2), 0);
        none.undo();
        CHECK.refused(none, "21 again none", none.game(1), 6);
    }

    /** b costs 0 of weight at 10; at 6, not at its best 4, it gives weight and room to the next year. */
    private static void gameThatGivesAYear() {
        BasketCap cap = Texts.of("service a price 10 size 100 slope 5 cost 4;service b price 6 size 60 slope 2 cost 3;"
                + "index 5;x 3;buyer r 3,1");
        int[] want = {904, 0, 10, 444};
        for (int i = 0; i < 4; i++) {
            CHECK.fine(cap, "21 game(" + i + ")", cap.game(i), want[i]);
        }
        BasketCap give = Texts.of("service a price 1 size 18 slope 0 cost 0;"
                + "service b price 10 size 18 slope 2 cost 0;carry 0");
        int[] later = {126, 1, 6, 54};
        for (int i = 0; i < 4; i++) {
            CHECK.fine(give, "21 given away, game(" + i + ")", give.game(i), later[i]);
        }
        CHECK.fine(give, "15 that year's own best", give.best(), 58);
    }

    private static void path() {
        BasketCap cap = Texts.of(Check.A);
        int[][] want = {{106, 612, 4, 1}, {196, 1224, 3, 2}};
        for (int n = 2; n >= 1; n--) {
            for (int i = 0; i < 4; i++) {
                CHECK.fine(cap, "22 path(" + n + ", " + i + ")", cap.path(n, i), want[n - 1][i]);
            }
        }
        cap.price(0, 20);
        CHECK.fine(cap, "22 path doesn't hang on NEW prices", cap.path(2, 0), 196);
        CHECK.due("22 on paper", cap.about(1), 0);
        CHECK.refused(cap, "22 path(0, 0)", cap.path(0, 0), 2);
        CHECK.refused(cap, "22 path(9, 0)", cap.path(9, 0), 2);
        CHECK.refused(cap, "22 path(-1, 3)", cap.path(-1, 3), 2);
        CHECK.refused(cap, "22 path(1, 4)", cap.path(1, 4), 1);
        CHECK.refused(cap, "22 path(1, -1)", cap.path(1, -1), 1);
        CHECK.refused(cap, "22 path(9, 4)", cap.path(9, 4), 1);
        cap.lay(false);
        cap.year(false);
        CHECK.fine(cap, "22 a year on", cap.path(1, 0), 90);
        BasketCap still = Texts.of("service a price 5 size 9 slope 0 cost 0");
        CHECK.fine(still, "22 eight years", still.path(8, 0), 8 * 45);
        CHECK.fine(still, "22 prices that stay", still.path(8, 3), 0);
        CHECK.fine(still, "22 off", still.path(8, 2), 5);
    }

    private static void pathBehindTheLastYear() {
        BasketCap cap = Texts.of("service a price 5 size 9 slope 0 cost 0");
        for (int y = 1; y <= 99; y++) {
            CHECK.due("43 year", cap.year(false), y);
        }
        CHECK.fine(cap, "22 behind 99", cap.path(8, 0), 8 * 45);
        CHECK.fine(cap, "21 behind 99", cap.game(0), 90);
        CHECK.fine(cap, "34 behind 99", cap.next(), 45);
    }
}
