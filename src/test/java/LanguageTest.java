import java.nio.file.Files;
import java.nio.file.Path;
import java.util.List;
import java.util.regex.Matcher;
import java.util.regex.Pattern;

/** What LANGUAGE.md rules out, as far as the source's words show it. Runs in the project's folder. */
public final class LanguageTest {
    private static final Check CHECK = new Check("LanguageTest");
    private static final String[] RULED_OUT = {"->", "::", "\\bfinally\\b", "\\bsynchronized\\b", "\\bassert\\b",
        "\\bcatch\\b", "\\btry\\b", "\\bstatic\\s*\\{", "\\bdouble\\b", "\\bfloat\\b", "\\bRandom\\b",
        "currentTimeMillis", "nanoTime", "\\bThread\\b", "\\bjava\\.io\\b", "\\bjava\\.nio\\b", "Exact\\b",
        "\\bvar\\b", "\\bhashCode\\b", "\\btoString\\b", "^package\\b", "System\\.(?!arraycopy)", "[^\\x00-\\x7f]"};

    public static void main(String[] args) throws Exception {
        Path file = Path.of("src/main/java/BasketCap.java");
        List<String> lines = Files.readAllLines(file);
        for (String pattern : RULED_OUT) {
            Pattern p = Pattern.compile(pattern);
            for (String line : lines) {
                String code = line.replaceAll("^\\s*(/?\\*|//).*", "");
                CHECK.due(pattern + " in: " + line, p.matcher(code).find(), false);
            }
        }
        imports(lines);
        throwsStated(lines);
        shortMethods(lines);
        CHECK.end();
    }

    private static void imports(List<String> lines) {
        long imports = lines.stream().filter(l -> l.startsWith("import ")).count();
        CHECK.due("imports", imports, 1);
        CHECK.due("the import", lines.contains("import java.util.NoSuchElementException;"), true);
    }

    private static void throwsStated(List<String> lines) {
        long all = lines.stream().filter(l -> l.contains("throw new ")).count();
        long stated = lines.stream().filter(l -> l.contains("throw new NoSuchElementException()")).count();
        CHECK.due("throws: octet, letter", all, 2);
        CHECK.due("throws of the document's exception", stated, 2);
    }

    private static void shortMethods(List<String> lines) {
        Pattern head = Pattern.compile("^( +)[a-zA-Z].*\\) (throws \\w+ )?\\{$");
        for (int i = 0; i < lines.size(); i++) {
            Matcher m = head.matcher(lines.get(i));
            if (m.matches() && m.group(1).length() <= 8) {
                int end = i;
                while (end < lines.size() && !lines.get(end).equals(m.group(1) + "}")) {
                    end++;
                }
                CHECK.due("lines of " + lines.get(i).trim(), end - i <= 60, true);
            }
        }
    }
}
