import java.lang.reflect.Method;
import java.lang.reflect.Modifier;
import java.util.Arrays;
import java.util.List;

/** Promises 1 to 5, boundary by boundary: a new object, THE TAPE, THE TEXT, its FAULTS and their places. */
public final class EdgeTextsTest {
    private static final Edges E = new Edges("EdgeTextsTest");
    private static final String S = "service a price 1 size 1 slope 1 cost 1";
    private static final int BLANK = 0x20202020;
    private static final int MARKS = 0x3f3f3f3f;
    private static final String[] RULES = {"index", "x", "carry", "due"};

    public static void main(String[] args) throws Exception {
        E.run(EdgeTextsTest.class);
    }

    private static String service(String name) {
        return S.replace(" a ", " " + name + " ");
    }

    private static String services(int n) {
        StringBuilder b = new StringBuilder(S);
        for (int s = 1; s < n; s++) {
            b.append(';').append(service("" + (char) ('a' + s)));
        }
        return b.toString();
    }

    private static int feedBlanks(BasketCap cap) {
        return cap.feed(BLANK, BLANK, BLANK, BLANK, BLANK);
    }

    // ---- 1

    @Says("No TEXT.")
    static void p01_noTextAtFirst() {
        BasketCap cap = new BasketCap();
        E.due("trouble()", cap.trouble(), 0);
        E.due("fault()", cap.fault(), 0);
        E.due("where()", cap.where(), Edges.NONE);
        E.due("bytes()", cap.bytes(), 0);
        E.noSuch("letter(0, 0)", BasketCap::new, c -> c.letter(0, 0));
        E.noSuch("octet(0)", BasketCap::new, c -> c.octet(0));
    }

    @Says({"No TEXT.", "1 there is none such (no TEXT,"})
    static void p01_withoutATextEveryCallIsRefusedByOne() {
        int calls = 0;
        for (Method m : BasketCap.class.getDeclaredMethods()) {
            boolean never = m.getName().matches("feed|text|fault|where|octet|letter|bytes|trouble");
            if (Modifier.isPublic(m.getModifiers()) && !never) {
                for (int number : new int[] {0, 1, -1, 99, Integer.MIN_VALUE, Integer.MAX_VALUE}) {
                    E.refused(m.getName() + " with " + number, BasketCap::new, c -> invoke(m, c, number), 1);
                }
                calls++;
            }
        }
        E.due("calls that may be refused beside text()", calls, 41);
    }

    private static Object invoke(Method m, BasketCap cap, int number) {
        Object[] args = new Object[m.getParameterCount()];
        for (int i = 0; i < args.length; i++) {
            args[i] = m.getParameterTypes()[i] == boolean.class ? (Object) (number == 0) : (Object) number;
        }
        try {
            return m.invoke(cap, args);
        } catch (ReflectiveOperationException e) {
            return e;
        }
    }

    @Says("No TEXT.")
    static void p01_aRefusedTextLeavesNone() {
        BasketCap cap = new BasketCap();
        Texts.load(cap, S + ";");
        E.due("about(0)", cap.about(0), Edges.NONE);
        E.due("trouble()", cap.trouble(), 1);
        cap.text(1);
        E.due("about(0) behind 2", cap.about(0), Edges.NONE);
    }

    // ---- 2

    @Says("Twenty bytes come behind THE TAPE, of each number the highest first: how many it has;")
    static void p02_eachByteAtItsPlace() {
        for (int i = 0; i < 20; i++) {
            int[] f = {BLANK, BLANK, BLANK, BLANK, BLANK};
            f[i / 4] += 0x1f << 24 - 8 * (i % 4);
            BasketCap cap = new BasketCap();
            E.due("feed", cap.feed(f[0], f[1], f[2], f[3], f[4]), 20);
            cap.text(20);
            E.due("place of byte " + i, cap.where(), i);
        }
    }

    @Says("of each number the highest first")
    static void p02_numbersBelowZeroAreBytesToo() {
        int[] wrong = {-1, Integer.MIN_VALUE, Integer.MAX_VALUE, 0, 0x80202020, 0xff202020};
        for (int number : wrong) {
            BasketCap cap = new BasketCap();
            E.due("feed", cap.feed(number, BLANK, BLANK, BLANK, BLANK), 20);
            cap.text(20);
            E.due("fault() of " + number, cap.fault(), 1);
            E.due("where() of " + number, cap.where(), 0);
        }
        BasketCap cap = new BasketCap();
        cap.feed(BLANK, BLANK, BLANK, BLANK, 0x202020a0);
        cap.text(20);
        E.due("byte 160 is no blank", cap.where(), 19);
    }

    @Says({"behind THE TAPE", "how many it has"})
    static void p02_feedsStandOneBehindTheOther() {
        BasketCap cap = new BasketCap();
        for (int i = 1; i <= 25; i++) {
            E.due("feed", feedBlanks(cap), 20 * i);
            E.due("bytes()", cap.bytes(), 20 * i);
        }
        for (int k = 0; k < 25; k++) {
            BasketCap one = new BasketCap();
            for (int i = 0; i < 25; i++) {
                one.feed(BLANK, BLANK, BLANK, i == k ? MARKS : BLANK, BLANK);
            }
            one.text(500);
            E.due("the first mark of feed " + k, one.where(), 20 * k + 12);
        }
    }

    @Says({"THE TAPE has 500 bytes", "NONE, and none comes, if there would be more than 500"})
    static void p02_noneComesBeyondFiveHundred() {
        BasketCap cap = new BasketCap();
        Edges.feed(cap, S + ";index 5" + " ".repeat(453));
        E.due("bytes()", cap.bytes(), 500);
        E.due("feed", cap.feed(MARKS, MARKS, MARKS, MARKS, MARKS), Edges.NONE);
        E.due("feed again", cap.feed(MARKS, MARKS, MARKS, MARKS, MARKS), Edges.NONE);
        E.due("bytes() then", cap.bytes(), 500);
        E.fine(cap, "text(500)", cap.text(500), 1);
        E.due("the text", cap.rule(0), 5);
        E.due("feed of an empty tape", feedBlanks(cap), 20);
    }

    @Says({"(trouble() stays)", "TROUBLE of the latest call that may be refused (those of which a number is told here)"})
    static void p02_troubleStays() {
        Edges.Call[] calls = {c -> c.rows(), c -> c.rule(4), c -> c.price(0, 21), c -> c.text(0), c -> c.undo(),
            c -> c.steady(0)};
        int[] why = {0, 1, 2, 4, 5, 6};
        for (int i = 0; i < calls.length; i++) {
            BasketCap cap = Edges.young();
            calls[i].on(cap);
            for (int k = 1; k <= 26; k++) {
                E.due("feed", feedBlanks(cap), k <= 25 ? 20 * k : Edges.NONE);
                E.due("trouble() behind feed", cap.trouble(), why[i]);
                E.due("where() behind feed", cap.where(), why[i] == 4 ? 0 : Edges.NONE);
            }
        }
    }

    // ---- 3

    @Says({"The first n bytes of THE TAPE (it is empty then) are THE TEXT", ": how many SERVICES."})
    static void p03_theFirstBytesAloneAreTheText() {
        BasketCap cap = new BasketCap();
        Edges.feed(cap, S + " ? nothing of this");
        E.fine(cap, "text(39)", cap.text(39), 1);
        E.due("bytes()", cap.bytes(), 0);
        Edges.feed(cap, S + "0");
        E.fine(cap, "all 40", cap.text(40), 1);
        E.due("cost 10", cap.service(0, 4), 10);
        Edges.feed(cap, S + "0");
        E.fine(cap, "39 of 40", cap.text(39), 1);
        E.due("cost 1", cap.service(0, 4), 1);
        for (int n = 1; n <= 4; n++) {
            E.sound(services(n), n);
        }
    }

    @Says("The first n bytes of THE TAPE")
    static void p03_aTextOfFiveHundredBytes() {
        String all = S + " ".repeat(453) + ";index 5";
        E.due("bytes", all.length(), 500);
        E.sound(all, 1);
        E.sound(" ".repeat(461) + S, 1);
        E.faulty(" ".repeat(500), 1, 500);
        E.faulty(all.substring(0, 499) + "?", 1, 499);
        E.faulty(S + ";".repeat(461), 1, 40);
    }

    @Says({"NONE: 2 (n); 4.", "2 a number;"})
    static void p03_aNumberThatTheTapeHasNot() {
        E.refused("text(-1)", c -> c.text(-1), 2);
        E.refused("text of one more", c -> c.text(c.bytes() + 1), 2);
        for (int n : Edges.FAR) {
            E.refused("text(" + n + ")", c -> c.text(n), 2);
        }
        E.refused("text(1) of an empty tape", BasketCap::new, c -> c.text(1), 2);
        E.refused("text(501) of a full tape", () -> {
            BasketCap cap = new BasketCap();
            Edges.feed(cap, S + " ".repeat(461));
            return cap;
        }, c -> c.text(501), 2);
        BasketCap cap = Edges.rich();
        int bytes = cap.bytes();
        cap.text(bytes + 1);
        E.due("the tape stays", cap.bytes(), bytes);
        E.fine(cap, "all of it", cap.text(bytes), 1);
    }

    @Says({"NONE: 2 (n); 4.", "4 a FAULT;", "by 4 THE TAPE (empty then), fault()."})
    static void p03_noBytesAreAFault() {
        E.faulty("", 1, 0);
        BasketCap cap = new BasketCap();
        Edges.feed(cap, S);
        E.due("text(0)", cap.text(0), Edges.NONE);
        E.due("trouble()", cap.trouble(), 4);
        E.due("bytes()", cap.bytes(), 0);
        E.due("where()", cap.where(), 0);
    }

    @Says({"NONE: 2 (n); 4.", "What is refused changes nothing but trouble(), where(); by 4 THE TAPE (empty then), fault()."})
    static void p03_aFaultLeavesTheTextThatWas() {
        for (int n = 0; n < S.length(); n++) {
            E.faulty(S.substring(0, n), 1, faultOfPart(n));
        }
        E.faulty(services(4) + ";buyer x 1,2,3,4", 1, 166);
        E.faulty("service q price 3 size 3 slope 3 cost 3;buyer w 9;index 9;x 9;carry 9;due 9;index 9", 3, 76);
    }

    /** Of S cut short: a word that is cut is at fault where it begins, all else at the end. */
    private static int faultOfPart(int n) {
        String part = S.substring(0, n);
        String[] words = {"service", "price", "size", "slope", "cost"};
        String last = part.substring(part.lastIndexOf(' ') + 1);
        boolean whole = last.isEmpty() || last.equals("a") || last.equals("1") || Arrays.asList(words).contains(last);
        return whole ? n : n - last.length();
    }

    @Says("YEAR 0 begins")
    static void p03_yearZeroBegins() {
        BasketCap cap = Edges.rich();
        cap.best();
        cap.rows();
        cap.path(8, 0);
        cap.game(0);
        cap.trade(0);
        cap.next();
        E.fine(cap, "text", Edges.loadAnew(cap, Check.A), 2);
        BasketCap fresh = Edges.young();
        for (int i = 0; i < 12; i++) {
            E.due("about(" + i + ")", cap.about(i), fresh.about(i));
        }
        for (int i = 0; i < 8; i++) {
            E.due("service(1, " + i + ")", cap.service(1, i), fresh.service(1, i));
        }
        E.due("carried(0)", cap.carried(0), 0);
        E.due("book(0, 0)", cap.book(0, 0), Edges.NONE);
        E.due("best()", cap.best(), fresh.best());
        E.due("rows()", cap.rows(), fresh.rows());
        E.due("path(8, 0)", cap.path(8, 0), fresh.path(8, 0));
        E.due("game(0)", cap.game(0), fresh.game(0));
        E.due("next()", cap.next(), fresh.next());
    }

    @Says({"The first n bytes of THE TAPE (it is empty then) are THE TEXT", "the end of the text: how many bytes it has"})
    static void p03_whatStandsBehindNIsNotRead() {
        String long1 = "service abcdefg price 19 size 199 slope 8 cost 19 quality 98 target 98;buyer bcdefgh 98;index 49";
        for (int n = 0; n <= long1.length(); n++) {
            BasketCap part = new BasketCap();
            int answer = Texts.load(part, long1.substring(0, n));
            BasketCap cap = new BasketCap();
            Edges.feed(cap, long1);
            E.due("text(" + n + ")", cap.text(n), answer);
            E.due("fault() of " + n, cap.fault(), part.fault());
            E.due("where() of " + n, cap.where(), part.where());
            for (int i = 0; i < 7; i++) {
                E.due("service(0, " + i + ") of " + n, cap.service(0, i), part.service(0, i));
            }
            E.due("units of " + n, cap.units(0, 0), part.units(0, 0));
            E.due("index of " + n, cap.rule(0), part.rule(0));
        }
        E.faulty(" ".repeat(493) + "service", 1, 500);
        E.faulty(" ".repeat(494) + "servic", 1, 494);
        E.faulty(" ".repeat(499) + "1", 1, 499);
    }

    @Says({"both 0 without", "index WHOLE (0 .. 50, 0 without), x WHOLE (0 .. 50, 0 without),",
        "carry WHOLE (0 .. 100, 10 without), due WHOLE (0 .. 99, 0 without)"})
    static void p03_nothingOfEarlierTextsStays() {
        String all = "service a price 9 size 9 slope 9 cost 9 quality 9 target 99;service b price 9 size 9 slope 9 cost 9 "
                + "quality 9 target 99;buyer p 9,9;buyer q 9,9;index 9;x 8;carry 99;due 7";
        BasketCap cap = new BasketCap();
        for (int i = 0; i < 6; i++) {
            Texts.load(cap, all);
            if (i % 2 == 0) {
                Texts.load(cap, all.replace("buyer q", "buyer a"));
            }
            if (i % 3 == 0) {
                Texts.load(cap, all.replace("price 9", "price 1"));
            }
            E.fine(cap, "text", Texts.load(cap, Edges.flat(5, 0, 9, 9)), 2);
            int[] rules = {0, 0, 10, 0};
            for (int k = 0; k < 4; k++) {
                E.fine(cap, "rule(" + k + ")", cap.rule(k), rules[k]);
            }
            for (int s = 0; s < 2; s++) {
                E.fine(cap, "QUALITY", cap.service(s, 5), 0);
                E.fine(cap, "TARGET", cap.service(s, 6), 0);
            }
            E.fine(cap, "DUES", cap.about(5), 0);
            E.due("a buyer", cap.buyer(0, 0), Edges.NONE);
            E.fine(cap, "hurt()", cap.hurt(), 0);
            E.fine(cap, "gentle()", cap.gentle(), cap.best());
        }
    }

    @Says({"(a TEXT leaves none)", "(a TEXT leaves no IMAGE)"})
    static void p03_aTextLeavesNoActAndNoImage() {
        BasketCap cap = Edges.rich();
        Edges.loadAnew(cap, S);
        E.due("about(9)", cap.about(9), 0);
        E.due("undo()", cap.undo(), Edges.NONE);
        E.due("trouble()", cap.trouble(), 5);
        E.due("back(0)", cap.back(0), false);
        E.due("trouble()", cap.trouble(), 1);
        E.due("back(1)", cap.back(1), false);
    }

    @Says({"I. THE TEXT (THE TAPE has 500 bytes; blanks, 32, part TOKENS and mean nothing else; TOKENS: WORDS",
        "LINE {; LINE}. LINE, one of:"})
    static void p03_blanksPartTokens() {
        E.sound("   " + S.replace(" ", "    ") + "   ;   index   1   ", 1);
        E.sound("service a price1size1slope1cost1;index1;x1", 1);
        E.sound("service a price1size1slope1cost1quality1target1;buyer b1", 1);
        E.faulty("servicea price 1 size 1 slope 1 cost 1", 1, 0);
        E.faulty("ser vice a price 1", 1, 0);
        E.faulty("service a price 1 1 size 1", 1, 18);
        for (char c : new char[] {0, 9, 10, 13, 31, 33, 160}) {
            E.faulty("service" + c + "a price 1 size 1 slope 1 cost 1", 1, 7);
        }
    }

    @Says({"WORDS of 1 to 7 small letters that stand together", "A NAME is a WORD but "})
    static void p03_wordsOfOneToSevenLetters() {
        for (int n = 1; n <= 7; n++) {
            E.sound(service("q".repeat(n)), 1);
            E.sound(S + ";buyer " + "q".repeat(n) + " 1", 1);
        }
        E.faulty(service("q".repeat(8)), 1, 8);
        E.faulty(S + ";buyer " + "q".repeat(8) + " 1", 1, 46);
        E.sound(service("az"), 1);
        E.faulty(service("Az"), 1, 8);
        E.faulty(service("a{"), 1, 9);
        E.faulty(service("a`"), 1, 9);
    }

    @Says("WHOLES of 1 to 3 digits that do")
    static void p03_wholesOfOneToThreeDigits() {
        E.sound("service a price 0 size 00 slope 000 cost 1", 1);
        E.sound("service a price 020 size 200 slope 009 cost 020", 1);
        E.faulty("service a price 0020 size 1 slope 1 cost 1", 1, 16);
        E.faulty("service a price 1 size 0000 slope 1 cost 1", 1, 23);
        E.faulty(S + ";index 0001", 1, 46);
        E.faulty(S + ";buyer b 0001", 1, 48);
    }

    @Says({"service NAME price WHOLE size WHOLE slope WHOLE cost WHOLE [quality WHOLE target WHOLE]",
        "PRICE 0 .. 20, SIZE 0 .. 200, SLOPE 0 .. 9, COST 0 .. 20, QUALITY, TARGET 0 .. 99, both 0 without",
        "PRICES, those of the YEAR ahead (told at first)"})
    static void p03_boundsOfAService() {
        int[][] rows = {{0, 0, 0, 0, 0, 0}, {20, 200, 9, 20, 99, 99}, {1, 2, 3, 4, 5, 6}};
        int[] at = {0, 2, 3, 4, 5, 6};
        for (int[] r : rows) {
            String text = "service a price " + r[0] + " size " + r[1] + " slope " + r[2] + " cost " + r[3];
            E.sound(text, 1);
            BasketCap without = Texts.of(text);
            BasketCap with = Texts.of(text + " quality " + r[4] + " target " + r[5]);
            for (int i = 0; i < 6; i++) {
                E.fine(with, "value " + i, with.service(0, at[i]), r[i]);
                E.fine(without, "value " + i + " without", without.service(0, at[i]), i < 4 ? r[i] : 0);
            }
        }
    }

    @Says({"a SERVICE; up to 4, numbered from 0", "a BUYER; up to 4, numbered from 0"})
    static void p03_upToFourServicesAndBuyers() {
        String buyers = ";buyer p 1,2,3,4;buyer q 5,6,7,8;buyer r 9,10,11,12;buyer s 13,14,15,16";
        E.sound(services(4) + buyers, 4);
        BasketCap cap = Texts.of(services(4) + buyers);
        for (int i = 0; i < 16; i++) {
            E.fine(cap, "units", cap.units(i / 4, i % 4), i + 1);
        }
        for (int s = 0; s < 4; s++) {
            E.due("name of " + s, cap.letter(s, 0), s);
        }
        E.sound(services(4), 4);
        E.sound(S + ";buyer p 1;buyer q 2;buyer r 3;buyer s 4", 1);
    }

    @Says({"buyer NAME WHOLE {, WHOLE}", "UNITS 0 .. 99 of SERVICES 0, 1, .., one for each; all SERVICES are told ahead"})
    static void p03_unitsOneForEachService() {
        for (int n = 1; n <= 4; n++) {
            String units = "0,99,1,98".substring(0, new int[] {1, 4, 6, 9}[n - 1]);
            E.sound(services(n) + ";buyer z " + units, n);
            E.sound(services(n) + ";index 1;buyer z " + units.replace(",", " , ") + " ;due 1", n);
        }
    }

    @Says({"or once each: index WHOLE (0 .. 50, 0 without), x WHOLE (0 .. 50, 0 without),",
        "carry WHOLE (0 .. 100, 10 without), due WHOLE (0 .. 99, 0 without)"})
    static void p03_rulesAndWhatTheyAreWithout() {
        int[] most = {50, 50, 100, 99};
        int[] without = {0, 0, 10, 0};
        for (int i = 0; i < 4; i++) {
            for (int v : new int[] {0, 1, most[i]}) {
                for (String text : List.of(RULES[i] + " " + v + ";" + S, S + ";" + RULES[i] + " " + v)) {
                    E.sound(text, 1);
                    BasketCap cap = Texts.of(text);
                    for (int k = 0; k < 4; k++) {
                        E.fine(cap, "rule(" + k + ")", cap.rule(k), k == i ? v : without[k]);
                    }
                }
            }
        }
        E.sound("due 1;" + S + ";carry 2;buyer b 1;x 3;buyer c 2;index 4", 1);
    }

    // ---- 4

    @Says({"The FAULT of the latest text() not refused by 2", "0 without one, ahead of any."})
    static void p04_theLatestTextNotRefusedByTwo() {
        BasketCap cap = new BasketCap();
        E.due("ahead of any", cap.fault(), 0);
        cap.text(1);
        E.due("refused by 2, ahead of any", cap.fault(), 0);
        String[] texts = {"?", "index 51", "index 1;index 1", "buyer a 1", "index 1"};
        for (int i = 0; i < texts.length; i++) {
            Texts.load(cap, texts[i]);
            E.due("fault", cap.fault(), i + 1);
            cap.text(-1);
            E.due("fault behind 2", cap.fault(), i + 1);
            cap.about(0);
            feedBlanks(cap);
            E.due("fault behind other calls", cap.fault(), i + 1);
            cap.text(999);
            E.due("fault behind 2 again", cap.fault(), i + 1);
            cap.text(0);
            E.due("fault of no bytes", cap.fault(), 1);
        }
        Texts.load(cap, S);
        E.due("without one", cap.fault(), 0);
        cap.text(1);
        E.due("without one, behind 2", cap.fault(), 0);
    }

    @Says({"1 FORM: a byte that begins no TOKEN", "single ones of ; ,"})
    static void p04_bytesThatBeginNoToken() {
        for (int v = 0; v < 256; v++) {
            char c = (char) v;
            if (c == ' ' || c >= '0' && c <= '9') {
                E.sound(S + c, 1);
            } else {
                E.faulty(S + c, 1, c == ';' ? 40 : 39);
            }
            if (c != ' ') {
                E.faulty(c + " " + S, 1, c == 'x' ? 2 : 0);
            }
        }
    }

    @Says("letters or digits too many that stand together (at the first of these)")
    static void p04_lettersOrDigitsTooMany() {
        E.faulty("service abcdefgh price 1", 1, 8);
        E.faulty("service " + "a".repeat(90), 1, 8);
        E.faulty("services a price 1", 1, 0);
        E.faulty("  serviceservice", 1, 2);
        E.faulty("service a price 1000", 1, 16);
        E.faulty("service a price " + "9".repeat(90), 1, 16);
        E.faulty("service a price 00000000000000000001 size 1", 1, 16);
        // so many that a word or a number of Java would be another by then
        E.faulty("index 4294967297;" + S, 1, 6);
        E.faulty("index 18446744073709551617;" + S, 1, 6);
        E.faulty("servicea".repeat(8) + " a price 1", 1, 0);
        E.faulty("aaaaaaaaaaaaaservice a price 1 size 1 slope 1 cost 1", 1, 0);
    }

    @Says("a TOKEN with which no TEXT goes on")
    static void p04_tokensWithWhichNoTextGoesOn() {
        String[] line = ("service a price 1 size 2 slope 3 cost 4 quality 5 target 6 ; buyer b 7 ; index 8 ; carry 9 ; "
                + "x 10 ; due 11").split(" ");
        String[] tokens = {";", ",", "1", "zz", "service", "price", "size", "slope", "cost", "quality", "target",
            "buyer", "index", "x", "carry", "due"};
        StringBuilder ahead = new StringBuilder();
        for (int k = 0; k <= line.length; k++) {
            for (String t : tokens) {
                if (!fits(line, k, t)) {
                    E.faulty(ahead + t, 1, ahead.length());
                    E.faulty(ahead + t + " " + t + " ?", 1, ahead.length());
                }
            }
            if (k < line.length) {
                ahead.append(line[k]).append(' ');
            }
        }
    }

    /** Whether a token may stand there, or is at another fault. */
    private static boolean fits(String[] line, int k, String t) {
        boolean begins = k == 0 || line[k - 1].equals(";");
        if (begins) {
            return t.matches("service|buyer|index|x|carry|due");
        }
        if (line[k - 1].matches("service|buyer")) {
            return t.equals("zz");
        }
        if (k == line.length || line[k].equals(";")) {
            return t.equals(";");
        }
        if (line[k].matches("\\d+")) {
            return t.equals("1");
        }
        return t.equals(line[k]) || line[k].equals("quality") && t.equals(";");
    }

    @Says("also UNITS too few or too many")
    static void p04_unitsTooFewOrTooMany() {
        for (int n = 1; n <= 4; n++) {
            String ahead = services(n) + ";buyer z ";
            E.faulty(ahead + ";index 1", 1, ahead.length());
            E.faulty(ahead + ",1", 1, ahead.length());
            StringBuilder units = new StringBuilder();
            for (int k = 1; k <= 6; k++) {
                units.append(k == 1 ? "" : ",").append(k);
                int end = ahead.length() + units.length();
                if (k < n) {
                    E.faulty(ahead + units, 1, end);
                    E.faulty(ahead + units + ";index 1", 1, end);
                    E.faulty(ahead + units + " 5", 1, end + 1);
                    E.faulty(ahead + units + ",", 1, end + 1);
                } else if (k > n) {
                    E.faulty(ahead + units, 1, ahead.length() + 2 * n - 1);
                    E.faulty(ahead + units + ";?", 1, ahead.length() + 2 * n - 1);
                } else {
                    E.sound(ahead + units, n);
                    E.faulty(ahead + units + ",", 1, end);
                    E.faulty(ahead + units + " 5", 1, end + 1);
                }
            }
        }
    }

    @Says({"1 FORM: a byte that begins no TOKEN", "letters or digits too many that stand together (at the first of these)"})
    static void p04_noTokenIsNoComma() {
        String ahead = services(2) + ";buyer z 1";
        for (int v = 0; v < 256; v++) {
            char c = (char) v;
            if (c != ',' && c != ' ' && !(c >= '0' && c <= '9')) {
                E.faulty(ahead + c + "2", 1, ahead.length());
            }
        }
        E.sound(ahead + ",2", 2);
        E.faulty(ahead + " abcdefgh 2", 1, ahead.length() + 1);
        E.faulty(ahead + " 0000 2", 1, ahead.length() + 1);
        E.faulty(S + "?index 1", 1, 39);
        E.faulty(S + " abcdefgh index 1", 1, 40);
    }

    @Says("the end of the text: how many bytes it has")
    static void p04_theEndOfTheText() {
        String[] parts = {"service", "service a", "service a price", "service a price 1", S + " quality",
            S + " quality 1", S + " quality 1 target", S + ";", S + ";buyer", S + ";buyer b", "index", "x", "carry",
            "due", "index 1;", "  "};
        for (String part : parts) {
            E.faulty(part, 1, part.length());
            E.faulty(part + " ", 1, part.length() + 1);
            E.faulty(part + "      ", 1, part.length() + 6);
        }
        BasketCap cap = new BasketCap();
        Edges.feed(cap, S);
        cap.text(33);
        E.due("the text ends ahead of the tape", cap.where(), 33);
    }

    @Says("2 a WHOLE that isn't within its bounds.")
    static void p04_wholesThatAreTooLarge() {
        String all = "service a price 20 size 200 slope 9 cost 20 quality 99 target 99;buyer b 99;"
                + "index 50;x 50;carry 100;due 99";
        E.sound(all, 1);
        String[] words = {"price ", "size ", "slope ", "cost ", "quality ", "target ", "b ", "index ", ";x ",
            "carry ", "due "};
        int[] most = {20, 200, 9, 20, 99, 99, 99, 50, 50, 100, 99};
        for (int i = 0; i < words.length; i++) {
            String told = words[i] + most[i];
            int at = all.indexOf(told) + words[i].length();
            for (int v : new int[] {most[i] + 1, 999}) {
                E.faulty(all.replace(told, words[i] + v), 2, at);
            }
        }
        String four = services(4) + ";buyer z ";
        for (int k = 0; k < 4; k++) {
            String[] units = {"99", "99", "99", "99"};
            E.sound(four + String.join(",", units), 4);
            units[k] = "100";
            E.faulty(four + String.join(",", units), 2, four.length() + 3 * k);
        }
    }

    @Says({"3 a NAME told again", "each told once (of SERVICES and BUYERS together)"})
    static void p04_namesToldAgain() {
        E.faulty(S + ";service a", 3, 48);
        E.faulty(services(3) + ";service a", 3, 128);
        E.faulty(services(3) + ";service b", 3, 128);
        E.faulty(services(3) + ";service c", 3, 128);
        E.sound(services(3) + ";" + service("d"), 4);
        String ahead = S + ";buyer p 1;buyer q 1;buyer r 1;buyer ";
        for (String name : List.of("a", "p", "q", "r")) {
            E.faulty(ahead + name + " 1", 3, ahead.length());
            E.faulty(ahead + name, 3, ahead.length());
        }
        E.sound(ahead + "s 1", 1);
        E.sound(ahead + "aa 1", 1);
        E.sound(service("abcdefg") + ";" + service("abcdefh") + ";" + service("bbcdefg") + ";" + service("abcdef"), 4);
        // the names of a text that was refused, or told ahead of this one, are told no more
        BasketCap cap = Texts.of(S + ";buyer b 1");
        Texts.load(cap, service("b") + ";buyer c 1;?");
        E.fine(cap, "names anew", Texts.load(cap, service("c") + ";buyer a 1;buyer b 1"), 1);
    }

    @Says({"A NAME is a WORD but service, price, size, slope, cost, quality, target, buyer, index, x, carry, due"})
    static void p04_wordsThatAreNoName() {
        for (String word : List.of("service", "price", "size", "slope", "cost", "quality", "target", "buyer", "index",
                "x", "carry", "due")) {
            E.faulty(service(word), 1, 8);
            E.faulty(S + ";buyer " + word + " 1", 1, 46);
            if (word.length() < 7) {
                E.sound(service(word + "a"), 1);
                E.sound(service("a" + word), 1);
            }
            E.sound(S + ";buyer " + (word + "z").substring(1) + " 1", 1);
        }
        E.sound(service("line"), 1);
        E.sound(service("name") + ";buyer whole 1", 1);
    }

    @Says("index, x, carry, due a second time, at that WORD.")
    static void p04_rulesASecondTime() {
        for (String word : RULES) {
            for (String first : List.of(word + " 0;" + S + ";", S + ";" + word + " 1;", word + " 1;", word + "10;")) {
                E.faulty(first + word, 3, first.length());
                E.faulty(first + word + " 1", 3, first.length());
                E.faulty(first + word + " 999", 3, first.length());
            }
            String all = "index 1;x 1;carry 1;due 1;" + S + ";";
            E.faulty(all + word + " 1", 3, all.length());
        }
    }

    @Says("4 a fifth service, a fifth buyer, a service behind a buyer, a buyer ahead of all services, at that WORD.")
    static void p04_lineThatComesTooLateOrTooEarly() {
        String four = services(4) + ";";
        E.faulty(four + "service e price 1 size 1 slope 1 cost 1", 4, four.length());
        E.faulty(four + "service a", 4, four.length());
        E.faulty(four + "service", 4, four.length());
        String buyers = S + ";buyer p 1;buyer q 1;buyer r 1;buyer s 1;";
        E.faulty(buyers + "buyer t 1", 4, buyers.length());
        E.faulty(buyers + "buyer p 1,2", 4, buyers.length());
        E.faulty(buyers + "buyer", 4, buyers.length());
        String one = S + ";buyer p 1;index 1;";
        E.faulty(one + service("b"), 4, one.length());
        E.faulty(one + "service", 4, one.length());
        E.faulty("buyer p 1;" + S, 4, 0);
        E.faulty(" buyer", 4, 1);
        E.faulty("index 1;buyer p 1", 4, 8);
        E.faulty("buyer", 4, 0);
    }

    @Says("5 at the end: no service.")
    static void p04_noService() {
        E.faulty("index 1", 5, 7);
        E.faulty("due 99   ", 5, 9);
        E.faulty("index 1;x 2;carry 3;due 4", 5, 25);
        E.sound("index 1;x 2;carry 3;due 4;" + S, 1);
    }

    @Says({"FAULTS. Told is the first TOKEN, from the left, at which one is found", "of one TOKEN the least number"})
    static void p04_theFirstTokenTheLeastNumber() {
        E.faulty("index 51;index 51;buyer ?", 2, 6);
        E.faulty("index 1;index 51;?", 3, 8);
        E.faulty("index 1;buyer 51;?", 4, 8);
        E.faulty("index ? 51;index 1", 1, 6);
        E.faulty("service x price 99", 1, 8);
        E.faulty(S + ";service a price 99", 3, 48);
        E.faulty("service b price 21 sizes", 2, 16);
        // the end without a service is no form either
        E.faulty("index 1;", 1, 8);
        E.faulty("index", 1, 5);
        E.faulty("  ", 1, 2);
        // a form's fault behind the first one is not told
        E.faulty("x 99 99 99", 2, 2);
        E.faulty(services(4) + ";service abcdefgh", 4, 160);
    }

    // ---- 5

    @Says("Its place, if the latest call that may be refused was by 4")
    static void p05_thePlaceOfEachFault() {
        for (int n = 0; n < 60; n++) {
            E.faulty(" ".repeat(n) + "?", 1, n);
        }
        BasketCap cap = new BasketCap();
        Texts.load(cap, S + ";index 51");
        E.due("where()", cap.where(), 46);
        E.due("where() again", cap.where(), 46);
        Texts.load(cap, S + "; ;");
        E.due("another", cap.where(), 41);
    }

    @Says("the latest call that may be refused was by 4")
    static void p05_callsThatCannotBeRefusedLeaveIt() {
        BasketCap cap = Edges.rich();
        cap.text(0);
        E.due("where()", cap.where(), 0);
        cap.fault();
        cap.bytes();
        cap.trouble();
        cap.where();
        feedBlanks(cap);
        cap.octet(0);
        cap.letter(0, 0);
        E.due("where() behind these", cap.where(), 0);
        E.noSuch("letter(0, 9) behind a fault", EdgeTextsTest::faultyOne, c -> c.letter(0, 9));
        E.noSuch("octet(99) behind a fault", EdgeTextsTest::faultyOne, c -> c.octet(99));
        E.due("where() stays 3", faultyOne().where(), 3);
    }

    private static BasketCap faultyOne() {
        BasketCap cap = Edges.young();
        Texts.load(cap, "   ?");
        return cap;
    }

    @Says("NONE else.")
    static void p05_noneElse() {
        E.due("a new one", new BasketCap().where(), Edges.NONE);
        E.due("a sound text", Edges.young().where(), Edges.NONE);
        Edges.Call[] calls = {c -> c.text(1), c -> c.text(-1), c -> c.about(0), c -> c.about(12), c -> c.price(0, 1),
            c -> c.price(0, 21), c -> c.undo(), c -> c.steady(0), c -> c.keep(0), c -> c.keep(2), c -> c.back(0),
            c -> c.write(), c -> c.book(0, 0), c -> c.year(false), c -> c.year(true)};
        for (int i = 0; i < calls.length; i++) {
            BasketCap cap = faultyOne();
            calls[i].on(cap);
            E.due("where() behind call " + i, cap.where(), Edges.NONE);
            E.due("fault() stays behind call " + i, cap.fault(), 1);
        }
        BasketCap cap = faultyOne();
        Texts.load(cap, S);
        E.due("a sound text behind a fault", cap.where(), Edges.NONE);
    }
}
