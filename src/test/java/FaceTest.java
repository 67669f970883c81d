import java.lang.reflect.Constructor;
import java.lang.reflect.Field;
import java.lang.reflect.Member;
import java.lang.reflect.Method;
import java.lang.reflect.Modifier;
import java.nio.file.Files;
import java.nio.file.Path;
import java.util.Arrays;
import java.util.Set;
import java.util.TreeSet;
import java.util.regex.Matcher;
import java.util.regex.Pattern;
import java.util.stream.Collectors;

/** The public face is the document's and no more; LANGUAGE.md's rules 1, 2, 5, 11 as far as they show there. */
public final class FaceTest {
    private static final Check CHECK = new Check("FaceTest");
    private static final String FACE = "about(int) back(int) best() bestOf(int) book(int,int) bought(int,int) "
            + "buyer(int,int) bytes() carried(int) become(int,int) fair() fairOf(int) fault() "
            + "feed(int,int,int,int,int) free(int) freely(int) gains(int) game(int) gentle() gentleOf(int) "
            + "good(int,int) hardest() hurt() keep(int) lay(boolean) letter(int,int) level(int,int) most(int) next() "
            + "octet(int) path(int,int) price(int,int) profit(int,int) quality(int,int) reach(int) rows() rule(int) "
            + "service(int,int) share(int,int) steady(int) steadyOf(int,int) text(int) trade(int) trouble() undo() "
            + "units(int,int) where() write() year(boolean)";

    public static void main(String[] args) throws Exception {
        face();
        documentsFace();
        members();
        classesInside();
        CHECK.due("NONE", BasketCap.NONE, -1);
        CHECK.end();
    }

    private static void face() throws Exception {
        Set<String> want = new TreeSet<>(Arrays.asList(FACE.split(" ")));
        Set<String> got = new TreeSet<>();
        for (Method m : BasketCap.class.getDeclaredMethods()) {
            if (!Modifier.isPrivate(m.getModifiers())) {
                got.add(m.getName() + Arrays.stream(m.getParameterTypes()).map(Class::getName)
                        .collect(Collectors.joining(",", "(", ")")));
                boolean truth = m.getName().equals("keep") || m.getName().equals("back");
                CHECK.due(m + " answers", m.getReturnType() == (truth ? boolean.class : int.class), true);
                CHECK.due(m + " is public, no more", m.getModifiers(), Modifier.PUBLIC);
                CHECK.due(m + " throws", m.getExceptionTypes().length,
                        m.getName().equals("octet") || m.getName().equals("letter") ? 1 : 0);
            }
        }
        CHECK.due("the face " + got, got.equals(want), true);
        CHECK.due("public final", BasketCap.class.getModifiers(), Modifier.PUBLIC | Modifier.FINAL);
        Constructor<?>[] makers = BasketCap.class.getDeclaredConstructors();
        CHECK.due("one constructor", makers.length, 1);
        CHECK.due("public constructor", makers[0].getModifiers(), Modifier.PUBLIC);
        CHECK.due("without parameters", makers[0].getParameterCount(), 0);
    }

    /** The face once more as the document itself writes it, with what each call answers and throws. */
    private static void documentsFace() throws Exception {
        Path doc = Path.of("../shared/DOC.md");
        if (!Files.exists(doc)) {
            System.out.println("FaceTest: " + doc + " isn't here, so the face was compared with this test's list alone");
            return;
        }
        Set<String> want = new TreeSet<>();
        Matcher m = Pattern.compile("public (int|boolean) (\\w+)\\(([^)]*)\\)( throws \\w+)?;")
                .matcher(Files.readString(doc));
        while (m.find()) {
            String types = m.group(3).replaceAll(" \\w+(, )?", ",").replaceAll(",$", "");
            want.add(m.group(1) + " " + m.group(2) + "(" + types + ")" + (m.group(4) == null ? "" : m.group(4)));
        }
        Set<String> got = new TreeSet<>();
        for (Method method : BasketCap.class.getDeclaredMethods()) {
            if (Modifier.isPublic(method.getModifiers())) {
                got.add(written(method));
            }
        }
        CHECK.due("calls of the document", want.size(), 49);
        CHECK.due("the document's face, " + want + ", is " + got, got.equals(want), true);
    }

    private static String written(Method m) {
        String thrown = Arrays.stream(m.getExceptionTypes()).map(c -> " throws " + c.getSimpleName())
                .collect(Collectors.joining());
        return m.getReturnType() + " " + m.getName() + Arrays.stream(m.getParameterTypes()).map(Class::getName)
                .collect(Collectors.joining(",", "(", ")")) + thrown;
    }

    private static void members() {
        for (Field f : BasketCap.class.getDeclaredFields()) {
            boolean none = f.getName().equals("NONE");
            CHECK.due(f + " is private", Modifier.isPrivate(f.getModifiers()), !none);
            CHECK.due(f + " is public", Modifier.isPublic(f.getModifiers()), none);
        }
        CHECK.due("fields", fieldsOf(BasketCap.class) <= 20, true);
    }

    private static void classesInside() {
        Set<String> open = Arrays.stream(FACE.split(" ")).map(s -> s.substring(0, s.indexOf('(')))
                .collect(Collectors.toSet());
        Class<?>[] inside = BasketCap.class.getDeclaredClasses();
        CHECK.due("classes", inside.length + 1 <= 12, true);
        namesApart(BasketCap.class, open);
        for (Class<?> c : inside) {
            CHECK.due(c + " is static", Modifier.isStatic(c.getModifiers()), true);
            CHECK.due(c + " is not public", Modifier.isPublic(c.getModifiers()), false);
            CHECK.due(c + " fields", fieldsOf(c) <= 20, true);
            namesApart(c, open);
        }
    }

    /** No method but the face's own bears a name of the face; static fields are final; few parameters. */
    private static void namesApart(Class<?> type, Set<String> open) {
        for (Method m : type.getDeclaredMethods()) {
            boolean own = type == BasketCap.class && Modifier.isPublic(m.getModifiers());
            CHECK.due(m + " bears a name of the face", !own && open.contains(m.getName()), false);
            CHECK.due(m + " parameters", m.getParameterCount() <= 7, true);
        }
        for (Field f : type.getDeclaredFields()) {
            CHECK.due(f + " static, not final", isStatic(f) && !Modifier.isFinal(f.getModifiers()), false);
        }
    }

    private static long fieldsOf(Class<?> type) {
        return Arrays.stream(type.getDeclaredFields()).filter(f -> !isStatic(f)).count();
    }

    private static boolean isStatic(Member m) {
        return Modifier.isStatic(m.getModifiers());
    }
}
