import java.util.Random;

/** Texts for the tests: fed whole, made at random, spoilt at random. */
final class Texts {
    private Texts() { }

    /** The five numbers of each feed that brings the text, blanks behind it. */
    static int[][] numbers(String text) {
        int feeds = (text.length() + 19) / 20;
        int[][] all = new int[feeds][5];
        for (int i = 0; i < feeds * 20; i++) {
            int octet = i < text.length() ? text.charAt(i) & 255 : 32;
            all[i / 20][i % 20 / 4] |= octet << 24 - 8 * (i % 4);
        }
        return all;
    }

    static int load(BasketCap cap, String text) {
        for (int[] f : numbers(text)) {
            cap.feed(f[0], f[1], f[2], f[3], f[4]);
        }
        return cap.text(text.length());
    }

    static BasketCap of(String text) {
        BasketCap cap = new BasketCap();
        load(cap, text);
        return cap;
    }

    /** A sound text; within 500 bytes. */
    static String sound(Random r, int services) {
        StringBuilder b = new StringBuilder();
        StringBuilder rules = new StringBuilder();
        String[] words = {"index", "x", "carry", "due"};
        int[] most = {50, 50, 100, 99};
        for (int i = 0; i < 4; i++) {
            if (r.nextInt(3) > 0) {
                rules.append(words[i]).append(gap(r)).append(r.nextInt(i == 3 ? 20 : most[i] + 1)).append(end(r));
            }
        }
        boolean first = r.nextBoolean();
        if (first) {
            b.append(rules);
        }
        int style = r.nextInt(4);
        for (int s = 0; s < services; s++) {
            b.append("service").append(blanks(r)).append(name(r, s)).append(blanks(r)).append(values(r, style));
            if (r.nextInt(3) == 0) {
                b.append(" quality").append(gap(r)).append(r.nextInt(100)).append(" target ").append(r.nextInt(100));
            }
            b.append(end(r));
        }
        int buyers = Math.max(0, r.nextInt(6) - 1);
        for (int i = 0; i < buyers; i++) {
            b.append("buyer ").append(name(r, 4 + i)).append(gap(r));
            for (int s = 0; s < services; s++) {
                b.append(s > 0 ? r.nextInt(5) > 0 ? "," : " , " : "").append(r.nextInt(3) == 0 ? 0 : r.nextInt(100));
            }
            b.append(end(r));
        }
        if (!first) {
            b.append(rules);
        }
        String text = b.toString().stripTrailing();
        text = text.substring(0, text.length() - 1);
        return text.length() <= 500 ? text : sound(r, services);
    }

    /** Styles: anything; steep; flat ones, whose rows are often alike; much bought, little wanted. */
    private static String values(Random r, int style) {
        int price = r.nextInt(21);
        int size = style == 2 ? 10 * r.nextInt(4) : style == 3 ? 150 + r.nextInt(51) : r.nextInt(201);
        int slope = style == 1 ? 5 + r.nextInt(5) : style == 2 ? r.nextInt(2) : r.nextInt(10);
        int cost = style == 2 ? r.nextInt(3) : r.nextInt(21);
        return "price" + gap(r) + price + " size" + gap(r) + size + " slope" + gap(r) + slope + " cost" + gap(r) + cost;
    }

    private static String name(Random r, int i) {
        StringBuilder b = new StringBuilder();
        b.append("abcdefgh".charAt(i));
        int more = r.nextInt(4) == 0 ? r.nextInt(7) : r.nextInt(2);
        for (int k = 0; k < more; k++) {
            b.append((char) ('a' + r.nextInt(26)));
        }
        String name = b.toString();
        return Plain.KEYWORDS.contains(name) ? name(r, i) : name;
    }

    private static String blanks(Random r) {
        return r.nextInt(8) == 0 ? "  " : " ";
    }

    /** Between letters and digits no blank is needed. */
    private static String gap(Random r) {
        return r.nextInt(6) == 0 ? "" : " ";
    }

    private static String end(Random r) {
        return r.nextInt(6) == 0 ? " ; " : ";";
    }

    /** A sound text with a few places spoilt. */
    static String spoilt(Random r) {
        StringBuilder b = new StringBuilder(sound(r, 1 + r.nextInt(4)));
        int times = 1 + r.nextInt(2);
        for (int i = 0; i < times && b.length() > 0; i++) {
            int at = r.nextInt(b.length());
            switch (r.nextInt(7)) {
                case 0 -> b.setCharAt(at, (char) r.nextInt(256));
                case 1 -> b.setCharAt(at, "az09;, x".charAt(r.nextInt(8)));
                case 2 -> b.insert(at, "az09;, x".charAt(r.nextInt(8)));
                case 3 -> b.deleteCharAt(at);
                case 4 -> b.setLength(at);
                case 5 -> swapLines(r, b);
                default -> doubleLine(r, b);
            }
        }
        return b.length() <= 500 ? b.toString() : b.substring(0, 500);
    }

    private static void swapLines(Random r, StringBuilder b) {
        String[] lines = b.toString().split(";", -1);
        int i = r.nextInt(lines.length);
        int k = r.nextInt(lines.length);
        String line = lines[i];
        lines[i] = lines[k];
        lines[k] = line;
        b.setLength(0);
        b.append(String.join(";", lines));
    }

    private static void doubleLine(Random r, StringBuilder b) {
        String[] lines = b.toString().split(";", -1);
        String line = lines[r.nextInt(lines.length)];
        if (r.nextBoolean()) {
            line = line.replaceFirst("(service|buyer) +[a-z]+", "$1 z" + (char) ('a' + r.nextInt(26)));
        }
        b.append(';').append(line);
    }
}
