/** Promises 1 to 5, 48, 49: a new object, THE TAPE, THE TEXT and its FAULTS, names. */
public final class TextsTest {
    private static final Check CHECK = new Check("TextsTest");
    private static final String S = "service a price 1 size 1 slope 1 cost 1";
    private static final int BLANK = 0x20202020;

    public static void main(String[] args) {
        newObject();
        feeding();
        textTakesTheTape();
        soundTexts();
        formFaults();
        boundFaults();
        againFaults();
        orderFaults();
        noServiceFaults();
        firstFaultCounts();
        faultAndWhere();
        refusedTextChangesNothing();
        newTextBeginsAnew();
        letters();
        CHECK.end();
    }

    private static void newObject() {
        BasketCap cap = new BasketCap();
        CHECK.due("1 fault()", cap.fault(), 0);
        CHECK.due("1 where()", cap.where(), -1);
        CHECK.due("1 trouble()", cap.trouble(), 0);
        CHECK.due("1 bytes()", cap.bytes(), 0);
        CHECK.refused(cap, "1 about(0)", cap.about(0), 1);
        CHECK.noLetter(cap, 0, 0);
        CHECK.noOctet(cap, 0);
    }

    private static void feeding() {
        BasketCap cap = new BasketCap();
        cap.about(0);
        for (int i = 1; i <= 25; i++) {
            CHECK.due("2 feed", cap.feed(BLANK, BLANK, BLANK, BLANK, BLANK), 20 * i);
            CHECK.due("49 bytes()", cap.bytes(), 20 * i);
        }
        CHECK.due("2 feed above 500", cap.feed(BLANK, BLANK, BLANK, BLANK, BLANK), -1);
        CHECK.due("2 none comes", cap.bytes(), 500);
        CHECK.due("2 trouble() stays", cap.trouble(), 1);
        CHECK.refused(cap, "3 text(500) of blanks", cap.text(500), 4);
        CHECK.due("5 where() at the end", cap.where(), 500);
        CHECK.due("49 bytes() behind text", cap.bytes(), 0);
        // every byte at its place, the highest first: "index 1;service a pr"
        cap.feed(0x696e6465, 0x7820313b, 0x73657276, 0x69636520, 0x61207072);
        cap.text(20);
        CHECK.due("2 places of bytes", cap.where(), 18);
        cap.feed(-1, BLANK, BLANK, BLANK, BLANK);
        cap.text(20);
        CHECK.due("2 byte 255", cap.where(), 0);
        cap.feed(BLANK, BLANK, BLANK, BLANK, 0x20202080);
        cap.text(20);
        CHECK.due("2 byte 128", cap.where(), 19);
    }

    private static void textTakesTheTape() {
        BasketCap cap = new BasketCap();
        CHECK.refused(cap, "3 text(-1)", cap.text(-1), 2);
        CHECK.refused(cap, "3 text(1)", cap.text(1), 2);
        feed(cap, S);
        CHECK.refused(cap, "3 text(41)", cap.text(41), 2);
        CHECK.refused(cap, "3 text(MIN)", cap.text(Integer.MIN_VALUE), 2);
        CHECK.due("3 the tape stays by 2", cap.bytes(), 40);
        CHECK.fine(cap, "3 text(39)", cap.text(39), 1);
        CHECK.due("3 the tape is empty", cap.bytes(), 0);
        feed(cap, S + "; index");
        CHECK.fine(cap, "3 only the first n bytes", cap.text(39), 1);
        String two = S + ";" + S.replace(" a ", " b ");
        feed(cap, two);
        CHECK.fine(cap, "3 two services", cap.text(two.length()), 2);
    }

    private static void soundTexts() {
        sound(S, 1);
        sound("  service   abcdefg  price 20 size 200 slope 9 cost 20 quality 99 target 99  ", 1);
        sound("servicea price1size1slope1cost1".replace("servicea", "service a"), 1);
        sound("service a price 000 size 007 slope 00 cost 0", 1);
        sound("index 50;x 50;carry 100;due 99;" + S, 1);
        sound("index0;x0;carry0;due0;" + S, 1);
        sound(S + ";index 5;" + S.replace(" a ", " b ") + ";buyer c 99,0;due 1;buyer d 0 , 99", 2);
        sound(S + ";" + S.replace(" a ", " b ") + ";" + S.replace(" a ", " c ") + ";" + S.replace(" a ", " d ")
                + ";buyer e 1,2,3,4;buyer f 1,2,3,4;buyer g 1,2,3,4;buyer h 1,2,3,4", 4);
        BasketCap cap = Texts.of(S);
        int[] rules = {0, 0, 10, 0};
        for (int i = 0; i < 4; i++) {
            CHECK.due("3 rule without", cap.rule(i), rules[i]);
        }
        CHECK.due("3 quality without", cap.service(0, 5), 0);
        CHECK.due("3 target without", cap.service(0, 6), 0);
    }

    private static void formFaults() {
        faulty("", 1, 0);
        faulty("   ", 1, 3);
        faulty("A", 1, 0);
        faulty("  ?", 1, 2);
        faulty("\n" + S, 1, 0);
        faulty("\t" + S, 1, 0);
        faulty("\0" + S, 1, 0);
        faulty(S + "\u00e9", 1, 39);
        faulty(S + " .", 1, 40);
        faulty("5", 1, 0);
        faulty(";" + S, 1, 0);
        faulty("," + S, 1, 0);
        faulty("tea", 1, 0);
        faulty("price 5", 1, 0);
        faulty("servicea price 1", 1, 0);
        faulty("service abcdefgh price 1", 1, 8);
        faulty("service", 1, 7);
        faulty("service  ", 1, 9);
        faulty("service 5", 1, 8);
        faulty("service ;", 1, 8);
        for (String word : Plain.KEYWORDS) {
            faulty("service " + word + " price 1", 1, 8);
            faulty(S + ";buyer " + word + " 1", 1, 46);
        }
        faulty("service a", 1, 9);
        faulty("service a size 1", 1, 10);
        faulty("service a price", 1, 15);
        faulty("service a price a", 1, 16);
        faulty("service a price 0001 size", 1, 16);
        faulty("service a price 1 slope 1", 1, 18);
        faulty("service a price 1 size 1 cost 1", 1, 25);
        faulty("service a price 1 size 1 slope 1", 1, 32);
        faulty("service a price 1 size 1 slope 1 cost", 1, 37);
        faulty(S + ";", 1, 40);
        faulty(S + "; ", 1, 41);
        faulty(S + ";;index 1", 1, 40);
        faulty(S + ",index 1", 1, 39);
        faulty(S + " index 1", 1, 40);
        faulty(S + " 1", 1, 40);
        faulty(S + " target 1 quality 1", 1, 40);
        faulty(S + " quality 1", 1, 49);
        faulty(S + " quality 1;", 1, 49);
        faulty(S + " quality target 1", 1, 48);
        faulty(S + " quality 1 target", 1, 56);
        faulty(S + " quality 1 target 1 1", 1, 59);
        faulty("index", 1, 5);
        faulty("index;" + S, 1, 5);
        faulty("index x", 1, 6);
        faulty("index 1 2;" + S, 1, 8);
        faulty("index 1,2;" + S, 1, 7);
        String two = S + ";" + S.replace(" a ", " b ") + ";buyer c ";
        faulty(two, 1, two.length());
        faulty(two + "1", 1, two.length() + 1);
        faulty(two + "1;", 1, two.length() + 1);
        faulty(two + "1,", 1, two.length() + 2);
        faulty(two + "1,;", 1, two.length() + 2);
        faulty(two + ",1", 1, two.length());
        faulty(two + "1 2", 1, two.length() + 2);
        faulty(two + "1,2,3", 1, two.length() + 3);
        faulty(two + "1,2 3", 1, two.length() + 4);
        faulty(S + ";buyer", 1, 45);
        faulty(S + ";buyer 1", 1, 46);
        faulty(S + ";buyer b", 1, 47);
        faulty(S + ";buyer b ;", 1, 48);
    }

    private static void boundFaults() {
        String all = "service a price 20 size 200 slope 9 cost 20 quality 99 target 99;buyer b 99;"
                + "index 50;x 50;carry 100;due 99";
        sound(all, 1);
        over(all, "price 20", "price 21", 6);
        over(all, "size 200", "size 201", 5);
        over(all, "size 200", "size 999", 5);
        over(all, "slope 9", "slope 10", 6);
        over(all, "cost 20", "cost 21", 5);
        over(all, "quality 99", "quality 100", 8);
        over(all, "target 99", "target 100", 7);
        over(all, "b 99", "b 100", 2);
        over(all, "index 50", "index 51", 6);
        over(all, "x 50;", "x 51;", 2);
        over(all, "carry 100", "carry 101", 6);
        over(all, "due 99", "due 100", 4);
    }

    private static void over(String all, String part, String instead, int behind) {
        int at = all.lastIndexOf(part);
        faulty(all.substring(0, at) + instead + all.substring(at + part.length()), 2, at + behind);
    }

    private static void againFaults() {
        faulty(S + ";service a price", 3, 48);
        faulty(S + ";buyer a 1", 3, 46);
        faulty(S + ";buyer b 1;buyer b 1", 3, 56);
        faulty(S + ";buyer b 1;buyer a 1", 3, 56);
        faulty(S + ";" + S.replace(" a ", " b ") + ";service b", 3, 88);
        String[] words = {"index", "x", "carry", "due"};
        for (String word : words) {
            String once = word + " 1;" + S + ";";
            faulty(once + word + " 1", 3, once.length());
            faulty(once + word, 3, once.length());
            faulty(word + " 0;" + word, 3, word.length() + 3);
        }
        sound(S + ";buyer aa 1;buyer ab 1", 1);
    }

    private static void orderFaults() {
        String four = S + ";" + S.replace(" a ", " b ") + ";" + S.replace(" a ", " c ") + ";" + S.replace(" a ", " d ");
        sound(four, 4);
        faulty(four + ";service e", 4, 160);
        faulty(four + ";service", 4, 160);
        String buyers = S + ";buyer e 1;buyer f 1;buyer g 1;buyer h 1";
        sound(buyers, 1);
        faulty(buyers + ";buyer i 1", 4, buyers.length() + 1);
        faulty(S + ";buyer e 1;service b price 1", 4, 50);
        faulty("buyer a 1;" + S, 4, 0);
        faulty("index 1;buyer a 1;" + S, 4, 8);
    }

    private static void noServiceFaults() {
        faulty("index 1", 5, 7);
        faulty("index 1  ", 5, 9);
        faulty("index 1;x 1;carry 1;due 1", 5, 25);
        faulty("index 1;", 1, 8);
    }

    private static void firstFaultCounts() {
        faulty("index 51;index 1;?", 2, 6);
        faulty("index 1;index 51", 3, 8);
        faulty("service price 1 ?", 1, 8);
        faulty("service a price 21 size 0000", 2, 16);
        faulty("buyer service", 4, 0);
        faulty(S + ";buyer a ?", 3, 46);
    }

    private static void faultAndWhere() {
        BasketCap cap = new BasketCap();
        cap.text(0);
        CHECK.due("4 fault()", cap.fault(), 1);
        CHECK.due("5 where()", cap.where(), 0);
        cap.text(1);
        CHECK.due("4 fault() stays by 2", cap.fault(), 1);
        CHECK.due("5 where() by 2", cap.where(), -1);
        cap.text(0);
        cap.fault();
        cap.bytes();
        cap.trouble();
        cap.feed(0, 0, 0, 0, 0);
        CHECK.noLetter(cap, 0, 0);
        CHECK.noOctet(cap, 0);
        CHECK.due("5 where() stays by calls that can't be refused", cap.where(), 0);
        cap.about(0);
        CHECK.due("5 where() by 1", cap.where(), -1);
        CHECK.due("4 fault() stays", cap.fault(), 1);
        cap.text(20);
        CHECK.due("4 fault() of byte 0", cap.fault(), 1);
        Texts.load(cap, S);
        CHECK.due("4 fault() of a sound text", cap.fault(), 0);
    }

    private static void refusedTextChangesNothing() {
        BasketCap cap = Texts.of(Check.A);
        cap.price(0, 7);
        cap.keep(1);
        CHECK.refused(cap, "3 a faulty text", Texts.load(cap, S + ";service b price 9 size 9 cost"), 4);
        CHECK.due("3 services stay", cap.about(0), 2);
        CHECK.due("3 new prices stay", cap.service(0, 1), 7);
        CHECK.due("3 sizes stay", cap.service(1, 2), 30);
        CHECK.due("3 rules stay", cap.rule(3), 6);
        CHECK.due("3 units stay", cap.units(0, 0), 2);
        CHECK.due("3 names stay", cap.letter(0, 0), 't' - 'a');
        CHECK.due("3 acts stay", cap.about(9), 1);
        CHECK.due("3 images stay", cap.back(1), true);
        CHECK.due("3 the best stays", cap.best(), 106);
    }

    private static void newTextBeginsAnew() {
        BasketCap cap = Texts.of(Check.A);
        cap.write();
        cap.year(true);
        cap.keep(0);
        cap.keep(1);
        cap.best();
        Texts.load(cap, S);
        CHECK.due("3 services", cap.about(0), 1);
        CHECK.due("3 year", cap.about(1), 0);
        CHECK.due("3 acts", cap.about(9), 0);
        CHECK.due("3 carried", cap.carried(0), 0);
        CHECK.due("3 rules", cap.rule(0), 0);
        CHECK.due("3 carry", cap.rule(2), 10);
        CHECK.refused(cap, "3 image 0", cap.back(0));
        CHECK.refused(cap, "3 image 1", cap.back(1));
        CHECK.refused(cap, "3 book", cap.book(0, 0), 1);
        CHECK.refused(cap, "3 buyers", cap.buyer(0, 0), 1);
        CHECK.due("3 hardest", cap.hardest(), -2);
        CHECK.due("3 best", cap.best(), 0);
        CHECK.written(cap, "4,5");
    }

    private static void letters() {
        BasketCap cap = Texts.of(S + ";" + S.replace(" a ", " zyxabcm ") + ";buyer bob 1,2");
        CHECK.due("48 letter(0, 0)", cap.letter(0, 0), 0);
        String name = "zyxabcm";
        for (int i = 0; i < 7; i++) {
            CHECK.due("48 letter(1, " + i + ")", cap.letter(1, i), name.charAt(i) - 'a');
        }
        cap.about(99);
        CHECK.noLetter(cap, 0, 1);
        CHECK.noLetter(cap, 0, -1);
        CHECK.noLetter(cap, 1, 7);
        CHECK.noLetter(cap, 2, 0);
        CHECK.noLetter(cap, -1, 0);
        CHECK.noLetter(cap, Integer.MAX_VALUE, Integer.MIN_VALUE);
        CHECK.due("48 trouble() stays", cap.trouble(), 1);
    }

    private static void feed(BasketCap cap, String text) {
        for (int[] f : Texts.numbers(text)) {
            cap.feed(f[0], f[1], f[2], f[3], f[4]);
        }
    }

    private static void sound(String text, int services) {
        BasketCap cap = new BasketCap();
        CHECK.fine(cap, "3 \"" + text + "\"", Texts.load(cap, text), services);
        CHECK.due("4 fault() of \"" + text + "\"", cap.fault(), 0);
    }

    private static void faulty(String text, int number, int place) {
        BasketCap cap = new BasketCap();
        CHECK.refused(cap, "3 \"" + text + "\"", Texts.load(cap, text), 4);
        CHECK.due("4 fault() of \"" + text + "\"", cap.fault(), number);
        CHECK.due("5 where() of \"" + text + "\"", cap.where(), place);
        CHECK.due("49 bytes() behind \"" + text + "\"", cap.bytes(), 0);
    }
}
