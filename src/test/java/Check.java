import java.util.NoSuchElementException;

/** Counts what is not as due; each test ends with end(). */
final class Check {
    static final String A = "service tea price 4 size 20 slope 2 cost 1;"
            + "service jam price 5 size 30 slope 0 cost 2 quality 3 target 7;"
            + "buyer ann 2,1;buyer bob 0,3;index 10;x 5;carry 20;due 6";

    private static final int MOST_TOLD = 60;

    private final String name;
    private int asked = 0;
    private int wrong = 0;

    Check(String name) {
        this.name = name;
    }

    void due(String call, long got, long want) {
        asked++;
        if (got != want) {
            wrong++;
            if (wrong <= MOST_TOLD) {
                System.out.println(name + ": " + call + " answered " + got + ", due is " + want);
            }
        }
    }

    void due(String call, boolean got, boolean want) {
        due(call, got ? 1 : 0, want ? 1 : 0);
    }

    /** An answer that isn't refused. */
    void fine(BasketCap cap, String call, int got, int want) {
        due(call, got, want);
        due(call + ", trouble()", cap.trouble(), 0);
        due(call + ", where()", cap.where(), BasketCap.NONE);
    }

    void refused(BasketCap cap, String call, int got, int why) {
        due(call, got, BasketCap.NONE);
        due(call + ", trouble()", cap.trouble(), why);
    }

    void refused(BasketCap cap, String call, boolean got) {
        due(call, got, false);
        due(call + ", trouble()", cap.trouble(), 1);
    }

    void noLetter(BasketCap cap, int s, int i) {
        int thrown = 0;
        try {
            cap.letter(s, i);
        } catch (NoSuchElementException e) {
            thrown = 1;
        }
        due("letter(" + s + ", " + i + ") throws", thrown, 1);
    }

    void noOctet(BasketCap cap, int k) {
        int thrown = 0;
        try {
            cap.octet(k);
        } catch (NoSuchElementException e) {
            thrown = 1;
        }
        due("octet(" + k + ") throws", thrown, 1);
    }

    /** The text as octets. */
    void written(BasketCap cap, String text) {
        for (int i = 0; i < text.length(); i++) {
            due("octet(" + i + ")", cap.octet(i), text.charAt(i));
        }
        noOctet(cap, text.length());
    }

    void end() {
        System.out.println(name + ": " + (asked - wrong) + " of " + asked + " answers are as due");
        if (wrong != 0) {
            System.exit(1);
        }
    }
}
