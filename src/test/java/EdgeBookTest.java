/** Promises 47 to 50, boundary by boundary: the book, letters, the tape's bytes, TROUBLE. */
public final class EdgeBookTest {
    private static final Edges E = new Edges("EdgeBookTest");
    private static final String TEN = Edges.flat(5, 0, 1, 1);
    private static final int BLANK = 0x20202020;

    public static void main(String[] args) throws Exception {
        E.run(EdgeBookTest.class);
    }

    private static BasketCap atYear99() {
        BasketCap cap = Texts.of(TEN);
        for (int y = 0; y < 99; y++) {
            cap.price(0, y % 6);
            cap.year(true);
        }
        return cap;
    }

    // ---- 47

    @Says({"Of a YEAR that has ended: 0 SPENT, 1 ALLOWED, 2 PROFIT, 3 GOOD (2, 3 may be below 0, likewise), 4 1 if the cap was KEPT, 0.",
        "in THE BOOK it has SPENT, ALLOWED, all PROFIT at NEW prices, all GOOD at them"})
    static void p47_whatTheBookHas() {
        BasketCap cap = Texts.of("service a price 5 size 10 slope 1 cost 6;carry 0");
        int[][] want = {{30, 25, 0, 6, 0}, {24, 14, 0, 6, 0}, {0, 4, -60, -15, 1}, {0, 0, -60, -15, 1}};
        int[] fresh = {6, 6, 0, 0};
        for (int y = 0; y < 4; y++) {
            cap.price(0, fresh[y]);
            E.fine(cap, "year", cap.year(true), y + 1);
        }
        for (int y = 0; y < 4; y++) {
            for (int what = 0; what < 5; what++) {
                E.fine(cap, "book(" + y + ", " + what + ")", cap.book(y, what), want[y][what]);
            }
        }
        E.onlyAnswers("book(0, 0)", c -> c.book(0, 0));
        E.onlyAnswers("book(1, 4)", c -> c.book(1, 4));
    }

    @Says({"(2, 3 may be below 0, likewise)", "4 1 if the cap was KEPT, 0."})
    static void p47_minusOneAndJustKept() {
        BasketCap cap = Texts.of("service a price 0 size 1 slope 1 cost 1");
        cap.year(false);
        E.fine(cap, "PROFIT -1", cap.book(0, 2), -1);
        E.fine(cap, "GOOD -1", cap.book(0, 3), -1);
        E.fine(cap, "0 of 0 is kept", cap.book(0, 4), 1);
        BasketCap above = Texts.of(TEN);
        above.price(0, 6);
        above.year(true);
        E.fine(above, "11 of 10 is not", above.book(0, 4), 0);
        above.become(0, 50);
        E.fine(above, "nor later", above.book(0, 4), 0);
        above.price(0, 0);
        above.price(1, 0);
        above.year(false);
        E.fine(above, "less than all is", above.book(1, 4), 1);
    }

    @Says("NONE: 1 (what, too).")
    static void p47_refusals() {
        E.outside("book(0, ..)", 0, 4, (c, n) -> c.book(0, n), 1);
        E.withoutText("book(0, 0)", c -> c.book(0, 0));
        E.refused("book(0, 0) of the first year", Edges::young, c -> c.book(0, 0), 1);
        E.refused("book(2, 0) of year 2", Edges::rich, c -> c.book(2, 0), 1);
        E.refused("book(-1, 0)", Edges::rich, c -> c.book(-1, 0), 1);
        E.refused("book(2, 5)", Edges::rich, c -> c.book(2, 5), 1);
        for (int y : Edges.FAR) {
            E.refused("book(" + y + ", 0)", Edges::rich, c -> c.book(y, 0), 1);
        }
        E.refused("book(99, 0) of 99", EdgeBookTest::atYear99, c -> c.book(99, 0), 1);
        E.refused("book(98, 0), undone", () -> {
            BasketCap cap = atYear99();
            cap.undo();
            return cap;
        }, c -> c.book(98, 0), 1);
        E.refused("book(0, 0) behind a text", () -> {
            BasketCap cap = Edges.busy();
            Edges.loadAnew(cap, TEN);
            return cap;
        }, c -> c.book(0, 0), 1);
    }

    @Says("Of a YEAR that has ended")
    static void p47_ninetyNineYears() {
        BasketCap spent = atYear99();
        BasketCap kept = atYear99();
        for (int y = 0; y < 99; y++) {
            E.due("book(" + y + ", 0)", spent.book(y, 0), y % 6 + 5);
            E.due("book(" + y + ", 4)", kept.book(y, 4), kept.book(y, 1) >= y % 6 + 5 ? 1 : 0);
        }
        E.due("trouble()", spent.trouble(), 0);
    }

    // ---- 48

    @Says("Letter i (0 a, ..) of the NAME of a SERVICE.")
    static void p48_lettersFromAToZ() {
        for (char c = 'a'; c <= 'z'; c++) {
            BasketCap cap = Texts.of("service " + (c == 'x' ? "xx" : "" + c) + " price 1 size 1 slope 1 cost 1");
            E.due("letter(0, 0) of " + c, cap.letter(0, 0), c - 'a');
        }
        String[] names = {"z", "abcdefg", "zyxwvut", "aaaaaaa"};
        StringBuilder b = new StringBuilder();
        for (String name : names) {
            b.append(b.length() > 0 ? ";" : "").append("service ").append(name).append(" price 1 size 1 slope 1 cost 1");
        }
        BasketCap cap = Texts.of(b.toString());
        for (int s = 0; s < 4; s++) {
            for (int i = 0; i < names[s].length(); i++) {
                E.due("letter(" + s + ", " + i + ")", cap.letter(s, i), names[s].charAt(i) - 'a');
            }
            int of = s;
            E.noSuch("letter behind the last of " + names[s], () -> Texts.of(b.toString()), c -> c.letter(of, names[of].length()));
        }
        E.onlyAnswers("letter(0, 0)", c -> c.letter(0, 0));
    }

    @Says("NoSuchElementException if there is none such.")
    static void p48_noSuchLetter() {
        E.noSuch("letter(0, 0) of a new one", BasketCap::new, c -> c.letter(0, 0));
        E.noSuch("letter(0, -1)", Edges::rich, c -> c.letter(0, -1));
        E.noSuch("letter(0, 3)", Edges::rich, c -> c.letter(0, 3));
        E.noSuch("letter(2, 0)", Edges::rich, c -> c.letter(2, 0));
        E.noSuch("letter(-1, 0)", Edges::rich, c -> c.letter(-1, 0));
        for (int n : Edges.FAR) {
            E.noSuch("letter(" + n + ", 0)", Edges::rich, c -> c.letter(n, 0));
            E.noSuch("letter(0, " + n + ")", Edges::rich, c -> c.letter(0, n));
        }
        // trouble() and where() stay as they are
        E.noSuch("letter(0, 7) behind a fault", () -> {
            BasketCap cap = Edges.young();
            Texts.load(cap, " ?");
            return cap;
        }, c -> c.letter(0, 7));
        E.noSuch("letter(1, 0) behind a text of one", () -> {
            BasketCap cap = Edges.young();
            Texts.load(cap, Edges.flat(1, 0, 1));
            return cap;
        }, c -> c.letter(1, 0));
    }

    // ---- 49

    @Says("Bytes of THE TAPE.")
    static void p49_fromZeroToFiveHundred() {
        BasketCap cap = new BasketCap();
        E.due("bytes()", cap.bytes(), 0);
        for (int i = 1; i <= 30; i++) {
            cap.feed(BLANK, BLANK, BLANK, BLANK, BLANK);
            E.due("bytes()", cap.bytes(), Math.min(20 * i, 500));
        }
        cap.text(501);
        E.due("behind 2", cap.bytes(), 500);
        cap.text(-1);
        E.due("behind 2", cap.bytes(), 500);
        cap.text(3);
        E.due("behind 4", cap.bytes(), 0);
        Edges.feed(cap, TEN);
        E.due("bytes()", cap.bytes(), 80);
        cap.text(TEN.length());
        E.due("behind a text", cap.bytes(), 0);
        E.onlyAnswers("bytes()", c -> c.bytes());
    }

    @Says("Bytes of THE TAPE.")
    static void p49_noActChangesThem() {
        BasketCap cap = Edges.busy();
        int bytes = cap.bytes();
        E.due("fed", bytes, 60);
        cap.price(0, 1);
        cap.year(true);
        cap.keep(0);
        cap.undo();
        cap.back(1);
        cap.write();
        E.due("bytes()", cap.bytes(), bytes);
    }

    // ---- 50

    @Says({"TROUBLE.", "0 it wasn't; 1 there is none such (no TEXT, SERVICE, BUYER, YEAR, IMAGE, what); 2 a number; 4 a FAULT; 5 not so; 6 there is none."})
    static void p50_eachTrouble() {
        BasketCap cap = new BasketCap();
        E.due("ahead of any", cap.trouble(), 0);
        Edges.Call[] calls = {c -> c.rows(), c -> c.text(1), c -> Texts.load(c, "?"), c -> Texts.load(c, TEN), c -> c.most(2),
            c -> c.buyer(0, 0), c -> c.book(0, 0), c -> c.back(0), c -> c.game(4), c -> c.price(0, 21), c -> c.undo(),
            c -> c.rows(), c -> c.price(0, 20), c -> c.year(false), c -> c.game(0), c -> c.price(1, 20), c -> c.game(0),
            c -> c.keep(0), c -> c.trade(0), c -> c.back(0)};
        int[] why = {1, 2, 4, 0, 1, 1, 1, 1, 1, 2, 5, 0, 0, 5, 0, 0, 6, 0, 6, 0};
        for (int i = 0; i < calls.length; i++) {
            calls[i].on(cap);
            E.due("trouble() behind call " + i, cap.trouble(), why[i]);
            E.due("trouble() asked again", cap.trouble(), why[i]);
            cap.feed(BLANK, BLANK, BLANK, BLANK, BLANK);
            cap.fault();
            cap.where();
            cap.bytes();
            E.due("trouble() behind calls without a number", cap.trouble(), why[i]);
            if (i == 0 || i == 2) {
                cap.text(0);
            }
        }
    }

    @Says("Of several the one that the call tells first.")
    static void p50_theOneToldFirst() {
        E.refused("price(9, 99)", c -> c.price(9, 99), 1);
        E.refused("bought(9, 99)", c -> c.bought(9, 99), 1);
        E.refused("path(99, 9)", c -> c.path(99, 9), 1);
        E.refused("steadyOf(99, 9)", c -> c.steadyOf(99, 9), 1);
        E.refused("become(9, 999)", c -> c.become(9, 999), 1);
        E.refused("quality(9, 999)", c -> c.quality(9, 999), 1);
        E.withoutText("reach(99)", c -> c.reach(99));
        E.withoutText("year(false)", c -> c.year(false));
        E.withoutText("undo()", c -> c.undo());
        E.withoutText("steady(99)", c -> c.steady(99));
    }

    @Says("TROUBLE of the latest call that may be refused (those of which a number is told here)")
    static void p50_callsWithoutANumberLeaveIt() {
        Edges.Call[] calls = {c -> c.feed(1, 2, 3, 4, 5), c -> c.fault(), c -> c.where(), c -> c.bytes(), c -> c.trouble(),
            c -> c.octet(0), c -> c.letter(0, 0)};
        Edges.Call[] ahead = {c -> c.rows(), c -> c.most(9), c -> c.price(0, 21), c -> c.text(0), c -> c.year(false),
            c -> c.game(0)};
        int[] why = {0, 1, 2, 4, 5, 6};
        for (int k = 0; k < ahead.length; k++) {
            for (Edges.Call call : calls) {
                BasketCap cap = Texts.of(TEN);
                cap.price(0, 20);
                cap.price(1, 20);
                cap.write();
                ahead[k].on(cap);
                call.on(cap);
                E.due("trouble() " + why[k] + " stays", cap.trouble(), why[k]);
            }
        }
        E.onlyAnswers("trouble()", c -> c.trouble());
        E.onlyAnswers("fault()", c -> c.fault());
        E.onlyAnswers("where()", c -> c.where());
        E.onlyAnswers("octet(0)", c -> c.octet(0));
    }

    @Says("The constants: `NONE = -1`: There is none; refused.")
    static void p50_none() {
        E.due("NONE", BasketCap.NONE, -1);
    }
}
