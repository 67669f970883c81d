import java.lang.reflect.Method;

/** Promises 47 and 50: the book, trouble; what is refused changes nothing. */
public final class BookTest {
    private static final Check CHECK = new Check("BookTest");

    public static void main(String[] args) throws Exception {
        book();
        booksBelowZero();
        troubleWithoutText();
        troubleStays();
        refusedChangesNothing();
        CHECK.end();
    }

    private static void book() {
        BasketCap cap = Texts.of(Check.A);
        CHECK.refused(cap, "47 no year has ended", cap.book(0, 0), 1);
        cap.year(true);
        cap.price(0, 0);
        cap.price(1, 5);
        cap.year(false);
        int[][] want = {{198, 183, 126, 606, 0}, {150, 153, 70, 610, 1}};
        for (int y = 0; y < 2; y++) {
            for (int i = 0; i < 5; i++) {
                CHECK.fine(cap, "47 book(" + y + ", " + i + ")", cap.book(y, i), want[y][i]);
            }
        }
        CHECK.refused(cap, "47 book(2, 0)", cap.book(2, 0), 1);
        CHECK.refused(cap, "47 book(-1, 0)", cap.book(-1, 0), 1);
        CHECK.refused(cap, "47 book(0, 5)", cap.book(0, 5), 1);
        CHECK.refused(cap, "47 book(0, -1)", cap.book(0, -1), 1);
    }

    private static void booksBelowZero() {
        BasketCap cap = Texts.of("service a price 0 size 1 slope 1 cost 1");
        cap.year(false);
        CHECK.fine(cap, "47 PROFIT is -1", cap.book(0, 2), -1);
        CHECK.fine(cap, "47 GOOD is -1", cap.book(0, 3), -1);
        CHECK.fine(cap, "47 just kept", cap.book(0, 4), 1);
    }

    /** Every call of which a number is told is refused by 1 without a text, whatever else is wrong. */
    private static void troubleWithoutText() throws Exception {
        int calls = 0;
        for (Method m : BasketCap.class.getDeclaredMethods()) {
            String name = m.getName();
            boolean never = name.matches("feed|text|fault|where|octet|letter|bytes|trouble");
            if (!java.lang.reflect.Modifier.isPublic(m.getModifiers()) || never) {
                continue;
            }
            for (int number : new int[] {0, -1, 99, Integer.MAX_VALUE}) {
                BasketCap cap = new BasketCap();
                Object[] args = new Object[m.getParameterCount()];
                for (int i = 0; i < args.length; i++) {
                    args[i] = m.getParameterTypes()[i] == boolean.class ? (Object) (number == 0) : (Object) number;
                }
                Object got = m.invoke(cap, args);
                CHECK.due("50 " + name, got.equals(-1) || got.equals(false), true);
                CHECK.due("50 trouble() of " + name, cap.trouble(), 1);
            }
            calls++;
        }
        CHECK.due("50 calls that may be refused", calls, 41);
    }

    private static void troubleStays() {
        BasketCap cap = Texts.of(Check.A);
        CHECK.due("50 0", cap.trouble(), 0);
        cap.price(0, 21);
        cap.feed(0, 0, 0, 0, 0);
        cap.bytes();
        cap.fault();
        cap.where();
        cap.letter(0, 0);
        CHECK.noLetter(cap, 5, 5);
        CHECK.noOctet(cap, 5);
        CHECK.due("50 stays", cap.trouble(), 2);
        CHECK.due("50 stays when it is told", cap.trouble(), 2);
        cap.undo();
        CHECK.due("50 not so", cap.trouble(), 5);
        cap.steady(0);
        CHECK.due("50 there is none", cap.trouble(), 6);
        cap.text(1);
        CHECK.due("50 a fault", cap.trouble(), 4);
        cap.rows();
        CHECK.due("50 none", cap.trouble(), 0);
    }

    private static void refusedChangesNothing() {
        BasketCap cap = Texts.of(Check.A);
        cap.price(0, 3);
        cap.year(true);
        cap.keep(0);
        cap.write();
        String ahead = picture(cap);
        cap.price(0, 21);
        cap.price(7, 1);
        cap.quality(0, 100);
        cap.become(0, 51);
        cap.become(7, 1);
        cap.price(0, 20);
        cap.year(false);
        cap.undo();
        cap.keep(2);
        cap.back(1);
        cap.text(1);
        cap.text(-1);
        CHECK.due("50 refused ones change nothing", picture(cap).equals(ahead), true);
    }

    private static String picture(BasketCap cap) {
        StringBuilder b = new StringBuilder();
        for (int i = 0; i < 12; i++) {
            b.append(cap.about(i)).append(' ').append(cap.service(0, i)).append(' ').append(cap.service(1, i))
                    .append(' ').append(cap.rule(i)).append(' ').append(cap.carried(i)).append(' ')
                    .append(cap.book(0, i)).append(' ').append(cap.book(1, i)).append(';');
        }
        for (int i = 0; i < 3; i++) {
            b.append(cap.octet(i)).append(' ');
        }
        return b.toString();
    }
}
