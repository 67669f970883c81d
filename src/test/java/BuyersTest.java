/** Promises 23 to 38: buyers, GENTLE, STEADY, levels, TRADE, REACH, what is written. */
public final class BuyersTest {
    private static final Check CHECK = new Check("BuyersTest");
    private static final String LIKE = "service a price 4 size 20 slope 0 cost 0;service b price 4 size 10 slope 0 cost 0";

    public static void main(String[] args) {
        buyers();
        hurt();
        hardest();
        gentle();
        steady();
        levels();
        trade();
        reach();
        next();
        gains();
        share();
        write();
        CHECK.end();
    }

    private static void buyers() {
        BasketCap cap = Texts.of(Check.A);
        cap.price(0, 6);
        cap.price(1, 3);
        int[][] want = {{13, 15, 3}, {15, 9, 3}};
        int[][] units = {{2, 1}, {0, 3}};
        for (int b = 0; b < 2; b++) {
            for (int i = 0; i < 3; i++) {
                CHECK.fine(cap, "23 buyer(" + b + ", " + i + ")", cap.buyer(b, i), want[b][i]);
            }
            for (int s = 0; s < 2; s++) {
                CHECK.fine(cap, "24 units(" + b + ", " + s + ")", cap.units(b, s), units[b][s]);
            }
        }
        CHECK.refused(cap, "23 buyer(2, 0)", cap.buyer(2, 0), 1);
        CHECK.refused(cap, "23 buyer(-1, 0)", cap.buyer(-1, 0), 1);
        CHECK.refused(cap, "23 buyer(0, 3)", cap.buyer(0, 3), 1);
        CHECK.refused(cap, "23 buyer(0, -1)", cap.buyer(0, -1), 1);
        CHECK.refused(cap, "24 units(2, 0)", cap.units(2, 0), 1);
        CHECK.refused(cap, "24 units(-1, 0)", cap.units(-1, 0), 1);
        CHECK.refused(cap, "24 units(0, 2)", cap.units(0, 2), 1);
        CHECK.refused(cap, "24 units(0, -1)", cap.units(0, -1), 1);
    }

    private static void hurt() {
        BasketCap cap = Texts.of(Check.A);
        CHECK.fine(cap, "25 as they are", cap.hurt(), 0);
        cap.price(0, 5);
        CHECK.fine(cap, "25 the first", cap.hurt(), 1);
        cap.price(0, 3);
        cap.price(1, 6);
        CHECK.fine(cap, "25 the second", cap.hurt(), 2);
        cap.price(0, 4);
        CHECK.fine(cap, "25 both", cap.hurt(), 3);
        BasketCap none = Texts.of(LIKE);
        none.price(0, 20);
        CHECK.fine(none, "25 no buyer", none.hurt(), 0);
        BasketCap four = Texts.of(LIKE + ";buyer e 1,0;buyer f 0,1;buyer g 1,0;buyer h 1,1");
        four.price(0, 5);
        CHECK.fine(four, "25 four", four.hurt(), 1 + 4 + 8);
    }

    private static void hardest() {
        BasketCap cap = Texts.of(Check.A);
        CHECK.fine(cap, "26 of like ones the first", cap.hardest(), 0);
        cap.price(1, 6);
        CHECK.fine(cap, "26 most above", cap.hardest(), 1);
        cap.price(1, 3);
        CHECK.fine(cap, "26 least below", cap.hardest(), 0);
        cap.price(1, 5);
        cap.price(0, 1);
        CHECK.fine(cap, "26 as it was", cap.hardest(), 1);
        BasketCap none = Texts.of(LIKE);
        CHECK.fine(none, "26 no buyer", none.hardest(), -2);
    }

    private static void gentle() {
        BasketCap cap = Texts.of(Check.A);
        CHECK.fine(cap, "27 gentle()", cap.gentle(), 106);
        CHECK.fine(cap, "28 gentleOf(0)", cap.gentleOf(0), 2);
        CHECK.fine(cap, "28 gentleOf(1)", cap.gentleOf(1), 5);
        CHECK.refused(cap, "28 gentleOf(2)", cap.gentleOf(2), 1);
        CHECK.refused(cap, "28 gentleOf(-1)", cap.gentleOf(-1), 1);
        BasketCap like = Texts.of(LIKE + ";buyer u 1,5");
        CHECK.fine(like, "27 a buyer's burden binds", like.gentle(), 120);
        CHECK.fine(like, "28 gentleOf(0)", like.gentleOf(0), 4);
        CHECK.fine(like, "28 gentleOf(1)", like.gentleOf(1), 4);
        like.become(0, 50);
        // ALLOWED 180, p + 5 q at most 24: 20 p + 10 q is 180 at p 8, q 2 and at p 9, q 0
        CHECK.fine(like, "27 with 180", like.gentle(), 180);
        CHECK.fine(like, "28 gentleOf(0) with 180", like.gentleOf(0), 8);
        CHECK.fine(like, "28 gentleOf(1) with 180", like.gentleOf(1), 2);
        BasketCap both = Texts.of(LIKE + ";buyer u 0,1;buyer v 1,0;index 50");
        CHECK.fine(both, "27 each buyer counts", both.gentle(), 120);
        BasketCap none = Texts.of(LIKE);
        CHECK.fine(none, "28 no buyer: BEST", none.gentleOf(1), 12);
        BasketCap one = Texts.of("service a price 0 size 1 slope 0 cost 1");
        CHECK.fine(one, "27 gentle() is -1", one.gentle(), -1);
    }

    private static void steady() {
        BasketCap cap = Texts.of(Check.A);
        CHECK.refused(cap, "29 no such row", cap.steady(0), 6);
        CHECK.refused(cap, "30 no such row", cap.steadyOf(0, 1), 6);
        CHECK.fine(cap, "29 steady(1)", cap.steady(1), 100);
        CHECK.fine(cap, "30 steadyOf(1, 0)", cap.steadyOf(1, 0), 5);
        CHECK.fine(cap, "30 steadyOf(1, 1)", cap.steadyOf(1, 1), 4);
        CHECK.fine(cap, "29 steady(20)", cap.steady(20), 106);
        CHECK.fine(cap, "30 steadyOf(20, 0)", cap.steadyOf(20, 0), 2);
        CHECK.fine(cap, "29 steady(1) again", cap.steady(1), 100);
        CHECK.refused(cap, "29 steady(21)", cap.steady(21), 2);
        CHECK.refused(cap, "29 steady(-1)", cap.steady(-1), 2);
        CHECK.refused(cap, "30 steadyOf(21, 0)", cap.steadyOf(21, 0), 2);
        CHECK.refused(cap, "30 steadyOf(-1, 0)", cap.steadyOf(-1, 0), 2);
        CHECK.refused(cap, "30 steadyOf(0, 2)", cap.steadyOf(0, 2), 1);
        CHECK.refused(cap, "30 steadyOf(21, -1)", cap.steadyOf(21, -1), 1);
        cap.quality(1, 7);
        CHECK.fine(cap, "29 steady(0) kept", cap.steady(0), 126);
        BasketCap like = Texts.of(LIKE);
        CHECK.fine(like, "30 of like ones the first", like.steadyOf(2, 0), 3);
        CHECK.fine(like, "30 no more than 4 + 4", like.steadyOf(4, 1), 8);
        CHECK.fine(like, "30 no lower than 0", like.steadyOf(8, 0), 0);
        BasketCap one = Texts.of("service a price 0 size 1 slope 0 cost 1");
        CHECK.fine(one, "29 steady() is -1", one.steady(3), -1);
    }

    private static void levels() {
        BasketCap cap = Texts.of(Check.A);
        CHECK.fine(cap, "31 as they are", cap.level(0, 0), 1);
        CHECK.fine(cap, "31 as they are", cap.level(1, 1), 1);
        cap.price(0, 6);
        CHECK.fine(cap, "31 level(0, 0)", cap.level(0, 0), 37);
        CHECK.fine(cap, "31 level(0, 1)", cap.level(0, 1), 33);
        CHECK.fine(cap, "31 level(1, 0)", cap.level(1, 0), 99);
        CHECK.fine(cap, "31 level(1, 1)", cap.level(1, 1), 91);
        cap.price(0, 0);
        cap.price(1, 0);
        CHECK.fine(cap, "31 nothing above", cap.level(0, 0), 0);
        CHECK.fine(cap, "31 nothing above", cap.level(0, 1), 1);
        CHECK.refused(cap, "31 level(2, 0)", cap.level(2, 0), 1);
        CHECK.refused(cap, "31 level(-1, 0)", cap.level(-1, 0), 1);
        CHECK.refused(cap, "31 level(0, 2)", cap.level(0, 2), 1);
        CHECK.refused(cap, "31 level(1, -1)", cap.level(1, -1), 1);
        BasketCap zero = Texts.of("service a price 0 size 9 slope 0 cost 0");
        zero.price(0, 5);
        CHECK.refused(zero, "31 nothing below", zero.level(0, 0), 5);
        CHECK.refused(zero, "31 what comes first", zero.level(0, 2), 1);
        BasketCap dear = Texts.of("service a price 1 size 9 slope 1 cost 0");
        dear.price(0, 9);
        CHECK.fine(dear, "31 nine", dear.level(0, 0), 9);
        CHECK.refused(dear, "31 nothing bought at NEW prices", dear.level(1, 0), 5);
    }

    private static void trade() {
        BasketCap cap = Texts.of(Check.A);
        int[] want = {100, 0, 1, 1};
        for (int i = 0; i < 4; i++) {
            CHECK.fine(cap, "32 trade(" + i + ")", cap.trade(i), want[i]);
        }
        CHECK.refused(cap, "32 trade(4)", cap.trade(4), 1);
        CHECK.refused(cap, "32 trade(-1)", cap.trade(-1), 1);
        cap.price(0, 1);
        // 162 of 183: tea may go up by itself, jam asks for one less of tea
        int[] then = {106, 0, 1, 0};
        for (int i = 0; i < 4; i++) {
            CHECK.fine(cap, "32 then trade(" + i + ")", cap.trade(i), then[i]);
        }
        cap.price(0, 20);
        cap.price(1, 20);
        CHECK.refused(cap, "32 20 at most", cap.trade(0), 6);
        cap.price(0, 19);
        CHECK.refused(cap, "32 down doesn't go below 0", cap.trade(0), 6);
        BasketCap one = Texts.of("service a price 0 size 1 slope 0 cost 1");
        CHECK.refused(one, "32 no other service", one.trade(0), 6);
        // all alike: the least that goes up, then the least that goes down
        BasketCap alike = Texts.of("service a price 3 size 5 slope 0 cost 0;service b price 3 size 5 slope 0 cost 0;"
                + "service c price 3 size 5 slope 0 cost 0");
        int[] first = {45, 0, 1, 1};
        for (int i = 0; i < 4; i++) {
            CHECK.fine(alike, "32 alike trade(" + i + ")", alike.trade(i), first[i]);
        }
        BasketCap less = Texts.of("service a price 0 size 1 slope 0 cost 1;service b price 0 size 0 slope 0 cost 1");
        CHECK.fine(less, "32 trade() is -1", less.trade(0), -1);
        CHECK.fine(less, "32 b goes up", less.trade(1), 1);
    }

    private static void reach() {
        BasketCap cap = Texts.of(Check.A);
        CHECK.fine(cap, "33 reach(80)", cap.reach(80), 0);
        CHECK.fine(cap, "33 reach(6)", cap.reach(6), 0);
        CHECK.fine(cap, "33 reach(5)", cap.reach(5), 1);
        CHECK.fine(cap, "33 reach(4)", cap.reach(4), 1);
        CHECK.fine(cap, "33 reach(3)", cap.reach(3), 2);
        CHECK.refused(cap, "33 reach(81)", cap.reach(81), 2);
        CHECK.refused(cap, "33 reach(-1)", cap.reach(-1), 2);
        BasketCap still = Texts.of("service a price 5 size 9 slope 0 cost 0");
        CHECK.fine(still, "33 not by eight", still.reach(4), -2);
        CHECK.fine(still, "33 at once", still.reach(5), 0);
        // ALLOWED 190 of 200: 19; 180 (downwards) of 190: 18; ..
        BasketCap down = Texts.of("service a price 20 size 10 slope 0 cost 0;x 5;carry 0");
        int[] price = {20, 19, 18, 17, 16, 15, 14, 13, 12};
        for (int n = 0; n <= 8; n++) {
            CHECK.fine(down, "33 reach(" + price[n] + ")", down.reach(price[n]), n);
        }
        CHECK.fine(down, "33 not by eight", down.reach(11), -2);
    }

    private static void next() {
        BasketCap cap = Texts.of(Check.A);
        CHECK.fine(cap, "34 next()", cap.next(), 76);
        CHECK.due("34 on paper", cap.about(1), 0);
        cap.price(0, 2);
        CHECK.fine(cap, "34 kept", cap.next(), 90);
        cap.undo();
        CHECK.fine(cap, "34 as it was", cap.next(), 76);
        BasketCap one = Texts.of("service a price 0 size 1 slope 0 cost 1");
        CHECK.fine(one, "34 next() is -1", one.next(), -1);
    }

    private static void gains() {
        BasketCap cap = Texts.of(Check.A);
        CHECK.fine(cap, "35 gains(0)", cap.gains(0), 0);
        CHECK.fine(cap, "35 gains(1)", cap.gains(1), 24);
        CHECK.refused(cap, "35 gains(2)", cap.gains(2), 1);
        CHECK.refused(cap, "35 gains(-1)", cap.gains(-1), 1);
        cap.quality(1, 9);
        CHECK.fine(cap, "35 above the target", cap.gains(1), 0);
        cap.quality(1, 0);
        cap.become(3, 99);
        CHECK.fine(cap, "35 ALLOWED was 0 at least", cap.gains(1), 207);
    }

    private static void share() {
        BasketCap cap = Texts.of(Check.A);
        CHECK.fine(cap, "36 share(0, 0)", cap.share(0, 0), 8);
        CHECK.fine(cap, "36 share(0, 1)", cap.share(0, 1), 33);
        CHECK.fine(cap, "36 share(1, 0)", cap.share(1, 0), 25);
        cap.price(0, 0);
        CHECK.fine(cap, "36 nothing above", cap.share(0, 0), 0);
        CHECK.fine(cap, "36 nothing above", cap.share(0, 1), 1);
        CHECK.fine(cap, "36 all", cap.share(1, 1), 1);
        CHECK.refused(cap, "36 share(2, 0)", cap.share(2, 0), 1);
        CHECK.refused(cap, "36 share(-1, 0)", cap.share(-1, 0), 1);
        CHECK.refused(cap, "36 share(0, 2)", cap.share(0, 2), 1);
        CHECK.refused(cap, "36 share(0, -1)", cap.share(0, -1), 1);
        cap.price(1, 0);
        CHECK.refused(cap, "36 nothing spent", cap.share(0, 0), 5);
        CHECK.refused(cap, "36 what comes first", cap.share(0, 2), 1);
    }

    private static void write() {
        BasketCap cap = new BasketCap();
        CHECK.refused(cap, "37 no text", cap.write(), 1);
        CHECK.noOctet(cap, 0);
        Texts.load(cap, Check.A);
        CHECK.noOctet(cap, 0);
        CHECK.fine(cap, "37 write()", cap.write(), 3);
        CHECK.written(cap, "4,5");
        cap.price(0, 20);
        cap.price(1, 10);
        CHECK.written(cap, "4,5");
        CHECK.fine(cap, "37 write()", cap.write(), 5);
        CHECK.written(cap, "20,10");
        cap.undo();
        cap.undo();
        cap.about(99);
        CHECK.written(cap, "20,10");
        CHECK.noOctet(cap, -1);
        CHECK.noOctet(cap, Integer.MAX_VALUE);
        CHECK.due("38 trouble() stays", cap.trouble(), 1);
        Texts.load(cap, "?");
        CHECK.written(cap, "20,10");
        Texts.load(cap, LIKE.replace("service b", "service c price 0 size 9 slope 0 cost 0;"
                + "service d price 9 size 9 slope 0 cost 0;service b"));
        CHECK.written(cap, "20,10");
        CHECK.fine(cap, "37 write()", cap.write(), 7);
        CHECK.written(cap, "4,0,9,4");
        for (int s = 0; s < 4; s++) {
            cap.price(s, 19 - s);
        }
        CHECK.fine(cap, "37 write()", cap.write(), 11);
        CHECK.written(cap, "19,18,17,16");
    }
}
