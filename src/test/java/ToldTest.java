/** Promises 6 to 12: what is told, BOUGHT, PROFIT, GOOD. */
public final class ToldTest {
    private static final Check CHECK = new Check("ToldTest");

    public static void main(String[] args) {
        about();
        service();
        rules();
        carried();
        tables();
        bounds();
        CHECK.end();
    }

    private static void about() {
        BasketCap cap = Texts.of(Check.A);
        int[] want = {2, 0, 105, 42, 198, 24, 183, 198, 0, 0, 6, 6};
        for (int i = 0; i < want.length; i++) {
            CHECK.fine(cap, "6 about(" + i + ")", cap.about(i), want[i]);
        }
        CHECK.refused(cap, "6 about(12)", cap.about(12), 1);
        CHECK.refused(cap, "6 about(-1)", cap.about(-1), 1);
        cap.price(0, 0);
        cap.price(1, 6);
        int[] then = {2, 0, 105, 42, 198, 24, 183, 180, 1, 2, 6, 5};
        for (int i = 0; i < then.length; i++) {
            CHECK.fine(cap, "6 about(" + i + ") then", cap.about(i), then[i]);
        }
        // just kept: SPENT is ALLOWED
        BasketCap even = Texts.of("service a price 5 size 9 slope 0 cost 0");
        CHECK.due("6 even", even.about(8), 1);
        // ALLOWED is 0 at least
        BasketCap due = Texts.of("service a price 5 size 9 slope 0 cost 0 quality 0 target 50;due 1");
        CHECK.due("6 dues", due.about(5), 50);
        CHECK.due("6 allowed", due.about(6), 0);
        // a quality above the target gives nothing
        BasketCap more = Texts.of("service a price 5 size 9 slope 0 cost 9 quality 60 target 50;due 9");
        CHECK.due("6 no dues", more.about(5), 0);
        CHECK.due("6 off below the cost", more.about(10), 4);
    }

    private static void service() {
        BasketCap cap = Texts.of(Check.A);
        cap.price(1, 9);
        cap.quality(1, 44);
        int[] tea = {4, 4, 20, 2, 1, 0, 0, 12};
        int[] jam = {5, 9, 30, 0, 2, 44, 7, 30};
        for (int i = 0; i < 8; i++) {
            CHECK.fine(cap, "7 service(0, " + i + ")", cap.service(0, i), tea[i]);
            CHECK.fine(cap, "7 service(1, " + i + ")", cap.service(1, i), jam[i]);
        }
        CHECK.refused(cap, "7 service(2, 0)", cap.service(2, 0), 1);
        CHECK.refused(cap, "7 service(-1, 0)", cap.service(-1, 0), 1);
        CHECK.refused(cap, "7 service(0, 8)", cap.service(0, 8), 1);
        CHECK.refused(cap, "7 service(0, -1)", cap.service(0, -1), 1);
    }

    private static void rules() {
        BasketCap cap = Texts.of(Check.A);
        int[] want = {10, 5, 20, 6};
        for (int i = 0; i < 4; i++) {
            CHECK.fine(cap, "8 rule(" + i + ")", cap.rule(i), want[i]);
        }
        CHECK.refused(cap, "8 rule(4)", cap.rule(4), 1);
        CHECK.refused(cap, "8 rule(-1)", cap.rule(-1), 1);
    }

    private static void carried() {
        BasketCap cap = Texts.of(Check.A);
        CHECK.fine(cap, "9 carried(0)", cap.carried(0), 0);
        CHECK.fine(cap, "9 carried(1)", cap.carried(1), -15);
        CHECK.refused(cap, "9 carried(2)", cap.carried(2), 1);
        CHECK.refused(cap, "9 carried(-1)", cap.carried(-1), 1);
        cap.year(true);
        CHECK.fine(cap, "9 twice what was too much", cap.carried(0), -30);
        CHECK.fine(cap, "9 carried(1) then", cap.carried(1), 153 - 198);
        // -1 as an answer, not as a refusal
        BasketCap one = Texts.of("service a price 1 size 1 slope 0 cost 0;x 1");
        CHECK.fine(one, "9 carried(1) is -1", one.carried(1), -1);
        // what is left over, but at most CARRY hundredths of ALLOWED, downwards
        BasketCap most = Texts.of("service a price 10 size 9 slope 0 cost 0;carry 15;index 3");
        most.price(0, 5);
        CHECK.fine(most, "9 left over", most.carried(1), 92 - 45);
        most.year(false);
        CHECK.fine(most, "9 at most carry", most.carried(0), 13);
        most.become(2, 100);
        most.price(0, 6);
        CHECK.due("6 allowed with what is carried", most.about(6), 46 + 13);
        most.year(false);
        CHECK.fine(most, "9 all that is left", most.carried(0), 5);
    }

    private static void tables() {
        BasketCap cap = Texts.of(Check.A);
        for (int p = 0; p <= 20; p++) {
            int units = p < 10 ? 20 - 2 * p : 0;
            int above = 0;
            for (int q = p + 1; q < 10; q++) {
                above += 20 - 2 * q;
            }
            CHECK.fine(cap, "10 bought(0, " + p + ")", cap.bought(0, p), units);
            CHECK.fine(cap, "11 profit(0, " + p + ")", cap.profit(0, p), units * (p - 1));
            CHECK.fine(cap, "12 good(0, " + p + ")", cap.good(0, p), above + units * (p - 1));
            CHECK.fine(cap, "10 bought(1, " + p + ")", cap.bought(1, p), 30);
            CHECK.fine(cap, "11 profit(1, " + p + ")", cap.profit(1, p), 30 * (p - 2));
            CHECK.fine(cap, "12 good(1, " + p + ")", cap.good(1, p), 540);
        }
        BasketCap one = Texts.of("service a price 1 size 1 slope 1 cost 1");
        CHECK.fine(one, "11 profit is -1", one.profit(0, 0), -1);
        CHECK.fine(one, "12 good is -1", one.good(0, 0), -1);
    }

    private static void bounds() {
        BasketCap cap = Texts.of(Check.A);
        int[][] wrong = {{2, 0, 1}, {-1, 0, 1}, {0, 21, 2}, {0, -1, 2}, {2, 21, 1}, {0, Integer.MIN_VALUE, 2},
            {Integer.MAX_VALUE, 5, 1}};
        for (int[] w : wrong) {
            String with = "(" + w[0] + ", " + w[1] + ")";
            CHECK.refused(cap, "10 bought" + with, cap.bought(w[0], w[1]), w[2]);
            CHECK.refused(cap, "11 profit" + with, cap.profit(w[0], w[1]), w[2]);
            CHECK.refused(cap, "12 good" + with, cap.good(w[0], w[1]), w[2]);
        }
    }
}
