import java.lang.reflect.Method;
import java.util.ArrayList;
import java.util.Arrays;
import java.util.Comparator;
import java.util.List;
import java.util.NoSuchElementException;

/**
 * What the Edge tests have in common: each of their tests is a method pNN_.., NN the promise's number,
 * and every refusal is looked at from all sides of the object, beside a twin that wasn't asked.
 */
final class Edges {
    interface Maker {
        BasketCap make();
    }

    interface Call {
        Object on(BasketCap cap);
    }

    interface NumberedCall {
        Object on(BasketCap cap, int number);
    }

    static final int NONE = BasketCap.NONE;
    static final int[] FAR = {Integer.MIN_VALUE, Integer.MIN_VALUE + 1, -1000, 1000, Integer.MAX_VALUE - 1,
        Integer.MAX_VALUE};
    private static final int SIDES = 7;
    private static final int TAPE_SIDE = 6;

    private final Check check;

    Edges(String name) {
        check = new Check(name);
    }

    /** Every method pNN_.. of the class, in the order of the numbers. */
    void run(Class<?> type) throws Exception {
        for (Method m : testsOf(type)) {
            m.setAccessible(true);
            m.invoke(null);
        }
        check.end();
    }

    static List<Method> testsOf(Class<?> type) {
        List<Method> all = new ArrayList<>();
        for (Method m : type.getDeclaredMethods()) {
            if (m.getName().matches("p\\d\\d_.*")) {
                all.add(m);
            }
        }
        all.sort(Comparator.comparing(Method::getName));
        return all;
    }

    void due(String call, long got, long want) {
        check.due(call, got, want);
    }

    void due(String call, boolean got, boolean want) {
        check.due(call, got, want);
    }

    /** An answer that isn't refused, a -1 too: trouble() tells it from NONE. */
    void fine(BasketCap cap, String call, int got, int want) {
        check.fine(cap, call, got, want);
    }

    // ---- objects to ask

    /** Just told. */
    static BasketCap young() {
        return Texts.of(Check.A);
    }

    /** A year has ended, both images are kept, more acts than can be undone, something on the tape and written. */
    static BasketCap rich() {
        BasketCap cap = Texts.of(Check.A);
        cap.price(0, 2);
        cap.year(false);
        cap.keep(0);
        cap.price(1, 3);
        cap.quality(1, 6);
        cap.year(true);
        cap.keep(1);
        for (int i = 0; i < 10; i++) {
            cap.price(i % 2, i);
        }
        cap.become(0, 12);
        cap.quality(0, 3);
        cap.write();
        feed(cap, "service zoo price 1 size 2 slope 0 cost 0; index 7");
        return cap;
    }

    /** As the rich one, but more acts can still be undone. */
    static BasketCap busy() {
        BasketCap cap = Texts.of(Check.A);
        cap.price(0, 2);
        cap.keep(0);
        cap.year(false);
        cap.price(1, 3);
        cap.keep(1);
        cap.price(0, 5);
        cap.write();
        feed(cap, "service zoo price 1 size 2 slope 0 cost 0; index 7");
        return cap;
    }

    static void feed(BasketCap cap, String text) {
        for (int[] f : Texts.numbers(text)) {
            cap.feed(f[0], f[1], f[2], f[3], f[4]);
        }
    }

    /** As many services as sizes, alike but for these: price, cost as told, no slope. */
    static String flat(int price, int cost, int... sizes) {
        StringBuilder b = new StringBuilder();
        for (int s = 0; s < sizes.length; s++) {
            b.append(s > 0 ? ";" : "").append("service ").append((char) ('a' + s)).append(" price ").append(price)
                    .append(" size ").append(sizes[s]).append(" slope 0 cost ").append(cost);
        }
        return b.toString();
    }

    /** Services that are unlike in everything, and buyers more or fewer than they. */
    static final String[] MIXED = {
        "service a price 3 size 60 slope 7 cost 2;service b price 11 size 45 slope 1 cost 14;buyer p 3,1;buyer q 0,9;"
            + "buyer r 5,5;index 12;x 3",
        "service a price 17 size 120 slope 6 cost 5;service b price 2 size 33 slope 9 cost 0;"
            + "service c price 9 size 80 slope 3 cost 7 quality 5 target 8;buyer p 1,7,2;due 11;carry 40",
        "service a price 0 size 90 slope 5 cost 1;service b price 20 size 150 slope 7 cost 18;"
            + "service c price 6 size 17 slope 2 cost 3;buyer p 2,2,1;buyer q 0,1,0;index 30",
        "service a price 5 size 30 slope 0 cost 3;service b price 8 size 5 slope 2 cost 4;"
            + "service c price 4 size 10 slope 0 cost 1;buyer d 1,0,2;buyer e 9,1,1"};
    static final String MIXED_FOUR = "service a price 7 size 70 slope 3 cost 9;service b price 2 size 180 slope 9 cost 1;"
            + "service c price 15 size 40 slope 2 cost 4;service d price 10 size 25 slope 1 cost 0;buyer p 1,2,3,4;"
            + "buyer q 4,1,1,0;x 9";

    interface PlainCall {
        int on(Plain plain);
    }

    interface IntCall {
        int on(BasketCap cap);
    }

    /** The answer that going through every row gives, at other NEW prices than the told ones too. */
    void asPlain(String call, String text, IntCall act, PlainCall want) {
        int services = Texts.of(text).about(0);
        for (int shift = 0; shift < 3; shift++) {
            BasketCap cap = Texts.of(text);
            Plain plain = new Plain();
            for (int[] f : Texts.numbers(text)) {
                plain.feed(f[0], f[1], f[2], f[3], f[4]);
            }
            plain.text(text.length());
            for (int s = 0; s < services && shift > 0; s++) {
                int p = (cap.service(s, 0) * shift + 5 * s) % 21;
                cap.price(s, p);
                plain.price(s, p);
            }
            int answer = act.on(cap);
            due(call + " of \"" + text + "\"", answer, want.on(plain));
            due(call + ", trouble()", cap.trouble(), plain.trouble());
        }
    }

    // ---- refusals

    void refused(String call, Call act, int why) {
        refused(call + " of a young one", Edges::young, act, why);
        refused(call + " of a rich one", Edges::rich, act, why);
    }

    /** Refused for every number outside low .. high, the nearest and far ones. */
    void outside(String call, int low, int high, NumberedCall act, int why) {
        for (int number : new int[] {low - 1, low - 2, high + 1, high + 2}) {
            refused(call + " with " + number, c -> act.on(c, number), why);
        }
        for (int number : FAR) {
            refused(call + " with " + number, c -> act.on(c, number), why);
        }
    }

    void withoutText(String call, Call act) {
        refused(call + " without a text", BasketCap::new, act, 1);
        refused(call + " with a faulty text alone", () -> {
            BasketCap cap = new BasketCap();
            Texts.load(cap, "service");
            return cap;
        }, act, 1);
    }

    /** Refused not by 4: nothing but trouble() and where() is another. */
    void refused(String call, Maker maker, Call act, int why) {
        BasketCap cap = maker.make();
        int fault = cap.fault();
        Object got = act.on(cap);
        due(call + " is refused", got.equals(NONE) || got.equals(false), true);
        due(call + ", trouble()", cap.trouble(), why);
        due(call + ", where()", cap.where(), NONE);
        due(call + ", fault() stays", cap.fault(), fault);
        for (int side = 0; side < SIDES; side++) {
            like(call, side, maker, act);
        }
    }

    /** Refused by 4: the tape is empty, fault() and where() tell, all else stays. */
    void faulty(String text, int number, int place) {
        for (Maker maker : List.<Maker>of(BasketCap::new, Edges::rich)) {
            BasketCap cap = maker.make();
            Call act = c -> loadAnew(c, text);
            String call = "\"" + text + "\"";
            due(call + " is refused", act.on(cap).equals(NONE), true);
            due(call + ", trouble()", cap.trouble(), 4);
            due(call + ", fault()", cap.fault(), number);
            due(call + ", where()", cap.where(), place);
            due(call + ", bytes()", cap.bytes(), 0);
            for (int side = 0; side < TAPE_SIDE; side++) {
                like(call, side, maker, act);
            }
        }
    }

    void sound(String text, int services) {
        BasketCap cap = new BasketCap();
        fine(cap, "\"" + text + "\"", Texts.load(cap, text), services);
        due("fault() of \"" + text + "\"", cap.fault(), 0);
        due("bytes() of \"" + text + "\"", cap.bytes(), 0);
    }

    /** A call that throws NoSuchElementException, and changes nothing at all. */
    void noSuch(String call, Maker maker, Call act) {
        int trouble = maker.make().trouble();
        int where = maker.make().where();
        BasketCap cap = maker.make();
        due(call + " throws", caught(cap, act), true);
        due(call + ", trouble() stays", cap.trouble(), trouble);
        due(call + ", where() stays", cap.where(), where);
        for (int side = 0; side < SIDES; side++) {
            like(call, side, maker, c -> caught(c, act));
        }
    }

    private static boolean caught(BasketCap cap, Call act) {
        try {
            act.on(cap);
        } catch (NoSuchElementException e) {
            return true;
        }
        return false;
    }

    /** As load, whatever stands on the tape. */
    static int loadAnew(BasketCap cap, String text) {
        emptyTape(cap);
        return Texts.load(cap, text);
    }

    private static void emptyTape(BasketCap cap) {
        if (cap.bytes() > 0) {
            cap.text(0);
        }
    }

    /** A call that answers may change trouble() and where() alone. */
    void onlyAnswers(String call, Call act) {
        for (int side = 0; side < SIDES; side++) {
            like(call + " only answers", side, Edges::rich, act);
        }
    }

    /** An act, and undo() behind it, leave all as it was. */
    void undone(String call, Call act) {
        BasketCap cap = busy();
        int acts = cap.about(9);
        act.on(cap);
        due(call + ", trouble()", cap.trouble(), 0);
        due(call + " is an act", cap.about(9), acts + 1);
        fine(cap, call + ", undo()", cap.undo(), acts);
        for (int side = 0; side < SIDES; side++) {
            like(call + " undone", side, Edges::busy, c -> {
                act.on(c);
                return c.undo();
            });
        }
    }

    private void like(String call, int side, Maker maker, Call act) {
        BasketCap asked = maker.make();
        act.on(asked);
        String then = picture(asked, side);
        String ahead = picture(maker.make(), side);
        due(call + " changes nothing on side " + side, then.equals(ahead), true);
    }

    // ---- pictures: each on an object of its own, so no object has more than 512 calls

    private static String picture(BasketCap cap, int side) {
        StringBuilder b = new StringBuilder();
        switch (side) {
            case 0 -> told(cap, b);
            case 1 -> sought(cap, b);
            case 2 -> book(cap, b);
            case 3 -> acts(cap, b);
            case 4, 5 -> {
                b.append(cap.back(side - 4)).append(cap.trouble()).append(' ');
                small(cap, b);
                book(cap, b);
            }
            default -> tape(cap, b);
        }
        return b.toString();
    }

    private static void told(BasketCap cap, StringBuilder b) {
        written(cap, b);
        for (int i = 0; i < 12; i++) {
            b.append(cap.about(i)).append(' ');
        }
        small(cap, b);
        for (int s = 0; s < 4; s++) {
            for (int i = 0; i < 8; i++) {
                b.append(cap.service(s, i)).append(' ');
            }
            for (int p = 0; p <= 20; p += 4) {
                b.append(cap.bought(s, p)).append(' ').append(cap.profit(s, p)).append(' ').append(cap.good(s, p))
                        .append(' ');
            }
            for (int k = 0; k < 4; k++) {
                b.append(cap.units(k, s)).append(' ');
            }
            name(cap, s, b);
        }
        for (int k = 0; k < 12; k++) {
            b.append(cap.buyer(k / 3, k % 3)).append(' ');
        }
    }

    private static void sought(BasketCap cap, StringBuilder b) {
        int[] all = {cap.best(), cap.fair(), cap.rows(), cap.gentle(), cap.next(), cap.hurt(), cap.hardest(),
            cap.steady(0), cap.steady(3), cap.steady(20), cap.reach(0), cap.reach(9), cap.path(1, 0), cap.path(8, 0),
            cap.path(8, 1), cap.path(8, 2), cap.path(8, 3)};
        b.append(Arrays.toString(all));
        for (int i = 0; i < 4; i++) {
            int[] each = {cap.game(i), cap.trade(i), cap.level(i / 2, i % 2), cap.most(i), cap.free(i), cap.bestOf(i),
                cap.fairOf(i), cap.freely(i), cap.gentleOf(i), cap.steadyOf(2, i), cap.gains(i), cap.share(i, 0),
                cap.share(i, 1)};
            b.append(Arrays.toString(each));
        }
    }

    /** The latest eight years alone: a book of 99 would be too many calls. */
    private static void book(BasketCap cap, StringBuilder b) {
        int year = cap.about(1);
        for (int y = Math.max(0, year - 8); y <= year; y++) {
            for (int i = 0; i < 5; i++) {
                b.append(cap.book(y, i)).append(' ');
            }
        }
    }

    private static void acts(BasketCap cap, StringBuilder b) {
        for (int i = 0; i < 12; i++) {
            b.append(cap.undo()).append(' ').append(cap.trouble()).append(' ');
            small(cap, b);
        }
    }

    private static void small(BasketCap cap, StringBuilder b) {
        b.append(cap.about(1)).append(' ').append(cap.about(9)).append(' ').append(cap.carried(0)).append(' ');
        for (int i = 0; i < 4; i++) {
            b.append(cap.rule(i)).append(' ').append(cap.service(i, 0)).append(' ').append(cap.service(i, 1))
                    .append(' ').append(cap.service(i, 5)).append(' ');
        }
    }

    private static void tape(BasketCap cap, StringBuilder b) {
        b.append(cap.bytes()).append(' ').append(cap.text(cap.bytes())).append(' ').append(cap.fault()).append(' ')
                .append(cap.where()).append(' ');
        small(cap, b);
        name(cap, 0, b);
    }

    private static void written(BasketCap cap, StringBuilder b) {
        for (int k = 0; k < 12; k++) {
            try {
                b.append(cap.octet(k)).append(' ');
            } catch (NoSuchElementException e) {
                b.append("- ");
            }
        }
    }

    private static void name(BasketCap cap, int s, StringBuilder b) {
        for (int i = 0; i < 8; i++) {
            try {
                b.append(cap.letter(s, i)).append(' ');
            } catch (NoSuchElementException e) {
                b.append("- ");
            }
        }
    }
}
