import java.lang.reflect.Method;
import java.nio.file.Files;
import java.nio.file.Path;
import java.util.List;
import java.util.regex.Matcher;
import java.util.regex.Pattern;

/**
 * What the Edge tests quote stands in the document, and every word of each promise is quoted by a test of its number,
 * every word of the terms by some test. Runs in the project's folder.
 */
public final class SaysTest {
    private static final Check CHECK = new Check("SaysTest");
    private static final List<Class<?>> EDGES = List.of(EdgeTextsTest.class, EdgeToldTest.class, EdgePricesTest.class,
            EdgeBuyersTest.class, EdgeActsTest.class, EdgeBookTest.class);
    private static final int PROMISES = 50;
    private static final Path DOC = Path.of("../shared/DOC.md");

    private static final class Part {
        final String text;
        final boolean[] quoted;

        Part(String text) {
            this.text = text;
            this.quoted = new boolean[text.length()];
        }

        boolean quote(String words) {
            boolean found = false;
            for (int at = text.indexOf(words); at >= 0; at = text.indexOf(words, at + 1)) {
                java.util.Arrays.fill(quoted, at, at + words.length(), true);
                found = true;
            }
            return found;
        }

        /** What no test quotes, but for signs between words. */
        String left() {
            StringBuilder b = new StringBuilder();
            for (int i = 0; i < text.length(); i++) {
                b.append(quoted[i] ? '\n' : text.charAt(i));
            }
            return b.toString().replaceAll("[\\n\\s;:,.()]+", " ").trim();
        }
    }

    public static void main(String[] args) throws Exception {
        if (!Files.exists(DOC)) {
            System.out.println("SaysTest: " + DOC + " isn't here, so no quote was looked up");
            return;
        }
        String doc = Files.readString(DOC);
        Part terms = new Part(flat(terms(doc)));
        Part[] promises = new Part[PROMISES + 1];
        for (int i = 1; i <= PROMISES; i++) {
            promises[i] = new Part(flat(promise(doc, i)));
        }
        for (Class<?> type : EDGES) {
            for (Method m : Edges.testsOf(type)) {
                quotes(m, terms, promises);
            }
        }
        for (int i = 1; i <= PROMISES; i++) {
            CHECK.due("promise " + i + " is quoted but for: " + promises[i].left(), promises[i].left().isEmpty(), true);
        }
        CHECK.due("the terms are quoted but for: " + terms.left(), terms.left().isEmpty(), true);
        CHECK.end();
    }

    private static void quotes(Method m, Part terms, Part[] promises) {
        Says says = m.getAnnotation(Says.class);
        CHECK.due(m.getName() + " quotes the document", says != null, true);
        if (says == null) {
            return;
        }
        int number = Integer.parseInt(m.getName().substring(1, 3));
        for (String words : says.value()) {
            boolean own = promises[number].quote(words);
            boolean told = terms.quote(words);
            CHECK.due(m.getName() + ": \"" + words + "\" stands in the document", own || told, true);
        }
    }

    private static String flat(String text) {
        return text.replaceAll("\\s+", " ");
    }

    /** Ahead of the promises, without the lines that only say where calls stand. */
    private static String terms(String doc) {
        String all = doc.substring(doc.indexOf("## Terms") + 8, doc.indexOf("## Promise 1:"));
        return all.replaceAll("Ahead of the calls .*", "").replaceAll("```(text)?", "");
    }

    /** A promise's words behind the call. */
    private static String promise(String doc, int number) {
        Matcher m = Pattern.compile("## Promise " + number + ": .*\\s+`[^`]*`: (.*)").matcher(doc);
        CHECK.due("promise " + number + " is there", m.find(), true);
        return m.group(1);
    }
}
