/** Promises 39 to 46: acts, what undoes them, images. */
public final class ActsTest {
    private static final Check CHECK = new Check("ActsTest");

    public static void main(String[] args) {
        price();
        lay();
        quality();
        become();
        year();
        lastYear();
        undo();
        tenActs();
        images();
        imagesHoldTheBook();
        CHECK.end();
    }

    private static void price() {
        BasketCap cap = Texts.of(Check.A);
        CHECK.fine(cap, "39 price(0, 20)", cap.price(0, 20), 4);
        CHECK.fine(cap, "39 price(0, 0)", cap.price(0, 0), 20);
        CHECK.fine(cap, "39 price(1, 5)", cap.price(1, 5), 5);
        CHECK.due("39 NEW price", cap.service(0, 1), 0);
        CHECK.due("39 PRICE", cap.service(0, 0), 4);
        CHECK.due("39 acts", cap.about(9), 3);
        CHECK.refused(cap, "39 price(2, 0)", cap.price(2, 0), 1);
        CHECK.refused(cap, "39 price(-1, 21)", cap.price(-1, 21), 1);
        CHECK.refused(cap, "39 price(0, 21)", cap.price(0, 21), 2);
        CHECK.refused(cap, "39 price(0, -1)", cap.price(0, -1), 2);
        CHECK.due("39 refused ones are no acts", cap.about(9), 3);
    }

    private static void lay() {
        BasketCap cap = Texts.of(Check.A);
        CHECK.fine(cap, "40 lay(false)", cap.lay(false), 174);
        CHECK.due("40 BEST", cap.service(0, 1), 2);
        CHECK.due("40 BEST", cap.service(1, 1), 5);
        CHECK.fine(cap, "40 lay(true)", cap.lay(true), 12);
        CHECK.due("40 FAIR", cap.service(0, 1), 1);
        CHECK.due("40 FAIR", cap.service(1, 1), 0);
        CHECK.fine(cap, "40 lay(true) again", cap.lay(true), 12);
        CHECK.due("40 acts", cap.about(9), 3);
        cap.undo();
        cap.undo();
        CHECK.due("40 undone", cap.service(1, 1), 5);
    }

    private static void quality() {
        BasketCap cap = Texts.of(Check.A);
        CHECK.fine(cap, "41 quality(1, 99)", cap.quality(1, 99), 3);
        CHECK.fine(cap, "41 quality(1, 0)", cap.quality(1, 0), 99);
        CHECK.due("41 dues", cap.about(5), 42);
        CHECK.due("41 acts", cap.about(9), 2);
        CHECK.refused(cap, "41 quality(2, 0)", cap.quality(2, 0), 1);
        CHECK.refused(cap, "41 quality(-1, 100)", cap.quality(-1, 100), 1);
        CHECK.refused(cap, "41 quality(0, 100)", cap.quality(0, 100), 2);
        CHECK.refused(cap, "41 quality(0, -1)", cap.quality(0, -1), 2);
        cap.undo();
        CHECK.due("41 undone", cap.service(1, 5), 99);
    }

    private static void become() {
        BasketCap cap = Texts.of(Check.A);
        int[] was = {10, 5, 20, 6};
        int[] most = {50, 50, 100, 99};
        for (int i = 0; i < 4; i++) {
            CHECK.fine(cap, "42 most", cap.become(i, most[i]), was[i]);
            CHECK.refused(cap, "42 above", cap.become(i, most[i] + 1), 2);
            CHECK.refused(cap, "42 below", cap.become(i, -1), 2);
            CHECK.due("42 rule", cap.rule(i), most[i]);
            CHECK.fine(cap, "42 least", cap.become(i, 0), most[i]);
        }
        CHECK.due("42 acts", cap.about(9), 8);
        CHECK.refused(cap, "42 become(4, 0)", cap.become(4, 0), 1);
        CHECK.refused(cap, "42 become(-1, -1)", cap.become(-1, -1), 1);
        cap.undo();
        CHECK.due("42 undone", cap.rule(3), 99);
    }

    private static void year() {
        BasketCap cap = Texts.of(Check.A);
        CHECK.refused(cap, "43 not kept", cap.year(false), 5);
        CHECK.due("43 no act", cap.about(9), 0);
        cap.price(0, 2);
        CHECK.fine(cap, "43 kept", cap.year(false), 1);
        CHECK.due("43 PRICES", cap.service(0, 0), 2);
        CHECK.due("43 NEW prices", cap.service(0, 1), 2);
        CHECK.due("43 WEIGHTS", cap.about(3), 46);
        CHECK.due("43 CARRIED", cap.carried(0), 9);
        CHECK.due("43 ALLOWED", cap.about(6), 176);
        CHECK.due("43 QUALITY stays", cap.service(1, 5), 3);
        CHECK.fine(cap, "43 forced", cap.year(true), 2);
        CHECK.due("43 CARRIED", cap.carried(0), 2 * (176 - 182));
        CHECK.due("43 acts", cap.about(9), 3);
    }

    private static void lastYear() {
        BasketCap cap = Texts.of("service a price 5 size 9 slope 0 cost 0");
        for (int y = 1; y <= 99; y++) {
            CHECK.fine(cap, "43 year", cap.year(y % 2 == 0), y);
        }
        CHECK.refused(cap, "43 it is 99", cap.year(false), 5);
        CHECK.refused(cap, "43 it is 99, forced", cap.year(true), 5);
        CHECK.due("43 it stays", cap.about(1), 99);
        CHECK.due("47 the last that ended", cap.book(98, 0), 45);
        cap.undo();
        CHECK.due("44 98", cap.about(1), 98);
        CHECK.fine(cap, "43 again", cap.year(true), 99);
    }

    private static void undo() {
        BasketCap cap = new BasketCap();
        CHECK.refused(cap, "44 no text", cap.undo(), 1);
        Texts.load(cap, Check.A);
        CHECK.refused(cap, "44 none", cap.undo(), 5);
        cap.price(0, 2);
        cap.price(0, 1);
        cap.quality(1, 5);
        cap.year(true);
        cap.price(0, 20);
        CHECK.fine(cap, "44 undo()", cap.undo(), 4);
        CHECK.due("44 a price", cap.service(0, 1), 1);
        CHECK.fine(cap, "44 undo()", cap.undo(), 3);
        CHECK.due("44 a year", cap.about(1), 0);
        CHECK.due("44 its prices", cap.service(0, 0), 4);
        CHECK.due("44 what it carried", cap.carried(0), 0);
        CHECK.refused(cap, "44 its book", cap.book(0, 0), 1);
        CHECK.fine(cap, "44 undo()", cap.undo(), 2);
        CHECK.due("44 a quality", cap.service(1, 5), 3);
        CHECK.fine(cap, "44 undo()", cap.undo(), 1);
        CHECK.fine(cap, "44 undo()", cap.undo(), 0);
        CHECK.due("44 all", cap.service(0, 1), 4);
        CHECK.refused(cap, "44 no more", cap.undo(), 5);
        cap.year(true);
        CHECK.due("47 anew", cap.book(0, 0), 198);
    }

    private static void tenActs() {
        BasketCap cap = Texts.of(Check.A);
        for (int i = 1; i <= 13; i++) {
            cap.price(0, i);
            cap.price(9, 9);
            CHECK.due("44 acts", cap.about(9), Math.min(i, 10));
        }
        for (int i = 12; i >= 3; i--) {
            CHECK.fine(cap, "44 undo()", cap.undo(), i - 3);
            CHECK.due("44 the latest first", cap.service(0, 1), i);
        }
        CHECK.refused(cap, "44 ten alone", cap.undo(), 5);
        CHECK.due("44 the eleventh stays", cap.service(0, 1), 3);
    }

    private static void images() {
        BasketCap cap = new BasketCap();
        CHECK.refused(cap, "45 no text", cap.keep(0));
        CHECK.refused(cap, "46 no text", cap.back(0));
        Texts.load(cap, Check.A);
        CHECK.refused(cap, "46 it wasn't kept", cap.back(0));
        CHECK.due("45 keep(0)", cap.keep(0), true);
        CHECK.due("45 trouble()", cap.trouble(), 0);
        CHECK.refused(cap, "46 the other wasn't kept", cap.back(1));
        CHECK.refused(cap, "45 keep(2)", cap.keep(2));
        CHECK.refused(cap, "45 keep(-1)", cap.keep(-1));
        CHECK.refused(cap, "46 back(2)", cap.back(2));
        CHECK.refused(cap, "46 back(-1)", cap.back(-1));
        cap.price(0, 2);
        cap.quality(0, 50);
        cap.become(0, 9);
        CHECK.due("45 keeping is no act", cap.about(9), 3);
        cap.keep(1);
        cap.year(false);
        CHECK.due("46 best ahead", cap.best(), cap.best());
        CHECK.due("46 back(0)", cap.back(0), true);
        CHECK.due("46 trouble()", cap.trouble(), 0);
        CHECK.due("46 no act can be undone", cap.about(9), 0);
        CHECK.refused(cap, "46 undo()", cap.undo(), 5);
        CHECK.due("46 NEW price", cap.service(0, 1), 4);
        CHECK.due("46 QUALITY", cap.service(0, 5), 0);
        CHECK.due("46 INDEX", cap.rule(0), 10);
        CHECK.due("46 YEAR", cap.about(1), 0);
        CHECK.due("46 CARRIED", cap.carried(0), 0);
        CHECK.due("46 BEST", cap.best(), 106);
        cap.price(0, 7);
        CHECK.due("46 back(1)", cap.back(1), true);
        CHECK.due("46 NEW price", cap.service(0, 1), 2);
        CHECK.due("46 QUALITY", cap.service(0, 5), 50);
        CHECK.due("46 INDEX", cap.rule(0), 9);
        CHECK.due("46 back(0) again", cap.back(0), true);
        CHECK.due("46 NEW price", cap.service(0, 1), 4);
        cap.price(0, 9);
        cap.keep(0);
        cap.undo();
        CHECK.due("44 undone behind an image", cap.service(0, 1), 4);
        cap.back(0);
        CHECK.due("45 kept anew", cap.service(0, 1), 9);
    }

    private static void imagesHoldTheBook() {
        BasketCap cap = Texts.of(Check.A);
        cap.year(true);
        cap.year(true);
        cap.keep(0);
        cap.undo();
        cap.undo();
        cap.price(0, 0);
        cap.year(true);
        CHECK.due("47 another year 0", cap.book(0, 0), 150);
        cap.back(0);
        CHECK.due("46 YEAR", cap.about(1), 2);
        CHECK.due("46 the book", cap.book(0, 0), 198);
        CHECK.due("46 the book", cap.book(1, 1), 153);
        CHECK.due("46 CARRIED", cap.carried(0), 2 * (153 - 198));
    }
}
