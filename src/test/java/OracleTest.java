import java.lang.reflect.InvocationTargetException;
import java.lang.reflect.Method;
import java.util.ArrayList;
import java.util.Arrays;
import java.util.List;
import java.util.Random;

/** Random runs of calls: BasketCap answers as Plain does, which goes through every row of prices. */
public final class OracleTest {
    private static final String[] CHEAP = {"fault", "where", "about", "service", "rule", "carried", "bought", "profit",
        "good", "most", "free", "freely", "buyer", "units", "hurt", "hardest", "level", "trade", "gains", "share",
        "write", "octet", "price", "price", "price", "quality", "become", "year", "year", "year", "undo", "undo",
        "keep", "back", "book", "letter", "bytes", "trouble", "trouble"};
    private static final String[] DEAR = {"best", "bestOf", "fair", "fairOf", "rows", "gentle", "gentleOf", "steady",
        "steadyOf", "next", "lay"};
    private static final String[] DEAREST = {"path", "reach", "game"};

    private static int wrong = 0;
    private final Random r;
    private final BasketCap cap = new BasketCap();
    private final Plain plain = new Plain();
    private final List<String> log = new ArrayList<>();
    private int calls = 0;
    private boolean quiet = false;

    private OracleTest(long seed) {
        r = new Random(seed);
    }

    public static void main(String[] args) throws Exception {
        for (int seed = 1; seed <= 5000 && wrong < 20; seed++) {
            new OracleTest(seed).texts();
        }
        for (int seed = 1; seed <= 260 && wrong < 20; seed++) {
            new OracleTest(seed).run(1 + seed % 3, 240, seed % 3 == 2 ? 2 : 6);
        }
        for (int seed = 1001; seed <= 1080 && wrong < 20; seed++) {
            new OracleTest(seed).run(4, 120, seed % 4 == 0 ? 2 : 0);
        }
        for (int seed = 2001; seed <= 2030 && wrong < 20; seed++) {
            new OracleTest(seed).manyYears();
        }
        System.out.println(wrong == 0 ? "OracleTest: all answers are as due" : "OracleTest: wrong answers");
        if (wrong != 0) {
            System.exit(1);
        }
    }

    /** Sound and spoilt texts one behind the other. */
    private void texts() throws Exception {
        for (int i = 0; i < 3; i++) {
            text(r.nextInt(3) == 0 ? Texts.sound(r, 1 + r.nextInt(4)) : Texts.spoilt(r), r.nextInt(10) == 0);
            for (String name : new String[] {"fault", "where", "trouble", "bytes"}) {
                call(name);
            }
            for (int k = 0; k < 8; k++) {
                call("about", k);
                call("service", r.nextInt(4), k);
                call("units", r.nextInt(4), k % 4);
                call("rule", k % 4);
                call("letter", r.nextInt(4), k);
            }
        }
    }

    private void run(int services, int calls, int dearest) throws Exception {
        text(Texts.sound(r, services), false);
        for (int i = 0; i < calls; i++) {
            int kind = r.nextInt(100);
            if (kind < 1) {
                text(r.nextBoolean() ? Texts.spoilt(r) : Texts.sound(r, services), false);
            } else if (kind < 1 + dearest) {
                random(DEAREST[r.nextInt(DEAREST.length)]);
            } else if (kind < 25) {
                random(DEAR[r.nextInt(DEAR.length)]);
            } else {
                random(CHEAP[r.nextInt(CHEAP.length)]);
            }
        }
    }

    /** Without trouble() behind each call, as a hundred years and their book need many. */
    private void manyYears() throws Exception {
        text(Texts.sound(r, 1 + r.nextInt(2)), false);
        quiet = true;
        for (int i = 0; i < 105; i++) {
            if (r.nextInt(3) == 0) {
                random("lay");
            }
            call("year", r.nextInt(12) > 0);
            random("carried");
            if (r.nextInt(40) == 0) {
                random("back");
            }
            if (r.nextInt(20) == 0) {
                random("keep");
            }
        }
        random("path");
        random("next");
        for (int y = -1; y <= 99; y++) {
            call("book", y, r.nextInt(7) - 1);
            call("book", y, r.nextInt(5));
        }
    }

    private void text(String text, boolean short1) throws Exception {
        log.add("\"" + text + "\"");
        for (int[] f : Texts.numbers(text)) {
            call("feed", f[0], f[1], f[2], f[3], f[4]);
        }
        call("bytes");
        call("text", short1 ? text.length() - r.nextInt(30) : text.length());
    }

    private void random(String name) throws Exception {
        Method m = method(BasketCap.class, name);
        Object[] args = new Object[m.getParameterCount()];
        for (int i = 0; i < args.length; i++) {
            args[i] = m.getParameterTypes()[i] == boolean.class ? (Object) r.nextBoolean() : (Object) number(name, i);
        }
        call(name, args);
    }

    private int number(String name, int i) {
        if (r.nextInt(60) == 0) {
            return r.nextInt();
        }
        switch (name) {
            case "about": return r.nextInt(14) - 1;
            case "bought", "profit", "good", "price": return i == 0 ? small() : r.nextInt(23) - 1;
            case "quality": return i == 0 ? small() : r.nextInt(102) - 1;
            case "become": return i == 0 ? r.nextInt(6) - 1 : r.nextInt(4) > 0 ? r.nextInt(52) : r.nextInt(103) - 1;
            case "steady": return r.nextInt(23) - 1;
            case "steadyOf": return i == 0 ? r.nextInt(23) - 1 : small();
            case "path": return i == 0 ? r.nextInt(10) : r.nextInt(5);
            case "reach": return r.nextInt(3) == 0 ? r.nextInt(84) - 1 : r.nextInt(20);
            case "service": return i == 0 ? small() : r.nextInt(10) - 1;
            case "keep", "back": return r.nextInt(9) == 0 ? r.nextInt(4) - 1 : r.nextInt(2);
            case "book": return i == 0 ? r.nextInt(8) - 1 : r.nextInt(7) - 1;
            case "octet": return r.nextInt(13) - 1;
            default: return small();
        }
    }

    private int small() {
        return r.nextInt(12) == 0 ? r.nextInt(7) - 1 : r.nextInt(3) + r.nextInt(2);
    }

    /** No object is asked more than 512 times: what it answers behind these is free. */
    private void call(String name, Object... args) throws Exception {
        calls += quiet ? 1 : 2;
        if (calls > 512) {
            return;
        }
        String got = answer(method(BasketCap.class, name), cap, args);
        String due = answer(method(Plain.class, name), plain, args);
        log.add(name + Arrays.toString(args) + " -> " + got);
        int gotTrouble = quiet ? plain.trouble() : cap.trouble();
        if ((!got.equals(due) || gotTrouble != plain.trouble()) && wrong++ < 3) {
            System.out.println(name + Arrays.toString(args) + " answered " + got + " (trouble " + gotTrouble
                    + "), due is " + due + " (" + plain.trouble() + ") behind");
            for (String line : log) {
                System.out.println("    " + line);
            }
        }
    }

    private static Method method(Class<?> type, String name) {
        for (Method m : type.getMethods()) {
            if (m.getName().equals(name)) {
                return m;
            }
        }
        throw new IllegalStateException(name);
    }

    private static String answer(Method m, Object target, Object[] args) throws Exception {
        try {
            return String.valueOf(m.invoke(target, args));
        } catch (InvocationTargetException e) {
            return e.getCause().getClass().getName();
        }
    }
}
