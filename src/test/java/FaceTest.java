import java.lang.reflect.Constructor;
import java.lang.reflect.Field;
import java.lang.reflect.Method;
import java.lang.reflect.Modifier;
import java.nio.charset.StandardCharsets;
import java.nio.file.Files;
import java.nio.file.Path;
import java.util.Arrays;
import java.util.TreeSet;
import java.util.regex.Matcher;
import java.util.regex.Pattern;

/** The public face, and those rules of LANGUAGE.md that the file itself shows. */
public final class FaceTest {
    private static final Due due = new Due("FaceTest");
    private static final String SOURCE = "src/main/java/RingOfThirds.java";
    private static final String[] FACE = {
        "int letter(int)", "int blank()", "int fault()", "int ring()", "int about(int,int)", "int as(int,int)",
        "int pass(int)", "int claim(int)", "int chain(int,int,int)", "int calm(int,int)", "int look(int,int,int)",
        "int forget()", "int rows(int,int)", "int lookNext(int)", "int seasons(int,int,int)", "int image()",
        "int restore()", "int count(int)", "long digest()"};

    public static void main(String[] args) throws Exception {
        constants();
        members();
        insideClasses();
        sizes();
        words();
        due.end();
    }

    private static void constants() {
        due.is("NONE", RingOfThirds.NONE, -1);
        due.is("UNKNOWN", RingOfThirds.UNKNOWN, -101);
        due.is("OUTSIDE", RingOfThirds.OUTSIDE, -102);
        due.is("STATE", RingOfThirds.STATE, -103);
        due.is("FULL", RingOfThirds.FULL, -104);
    }

    private static void members() {
        due.is("modifiers", RingOfThirds.class.getModifiers(), Modifier.PUBLIC | Modifier.FINAL);
        TreeSet<String> wanted = new TreeSet<>(java.util.List.of(FACE));
        TreeSet<String> told = new TreeSet<>();
        TreeSet<String> publicNames = new TreeSet<>();
        for (Method method : RingOfThirds.class.getDeclaredMethods()) {
            if (Modifier.isPrivate(method.getModifiers())) continue;
            told.add(signatureOf(method));
            publicNames.add(method.getName());
        }
        due.holds("the methods are " + told, told.equals(wanted));
        for (Method method : RingOfThirds.class.getDeclaredMethods()) {
            boolean isPrivate = Modifier.isPrivate(method.getModifiers());
            due.holds(method + " bears a name of its own", !isPrivate || !publicNames.contains(method.getName()));
        }
        Constructor<?>[] constructors = RingOfThirds.class.getDeclaredConstructors();
        due.is("constructors", constructors.length, 1);
        due.holds("the constructor is public", Modifier.isPublic(constructors[0].getModifiers()));
        TreeSet<String> fields = new TreeSet<>();
        for (Field field : RingOfThirds.class.getDeclaredFields()) {
            if (!Modifier.isPrivate(field.getModifiers())) fields.add(field.getName());
        }
        due.holds("the fields are " + fields, fields.equals(new TreeSet<>(
            java.util.List.of("NONE", "UNKNOWN", "OUTSIDE", "STATE", "FULL"))));
    }

    private static String signatureOf(Method method) {
        StringBuilder types = new StringBuilder();
        for (Class<?> type : method.getParameterTypes()) types.append(types.length() == 0 ? "" : ",").append(type);
        return method.getReturnType() + " " + method.getName() + "(" + types + ")";
    }

    private static void insideClasses() {
        Class<?>[] inside = RingOfThirds.class.getDeclaredClasses();
        due.holds("at most twelve classes", inside.length + 1 <= 12);
        for (Class<?> one : inside) {
            due.holds(one + " is static and not public",
                Modifier.isStatic(one.getModifiers()) && !Modifier.isPublic(one.getModifiers()));
            for (Field field : one.getDeclaredFields()) {
                int modifiers = field.getModifiers();
                due.holds(field + " is no static state", !Modifier.isStatic(modifiers) || Modifier.isFinal(modifiers));
            }
        }
    }

    /** Rule 3 of fields' types, rule 11 of how many parameters and fields. */
    private static void sizes() {
        Class<?>[] inside = RingOfThirds.class.getDeclaredClasses();
        Class<?>[] all = Arrays.copyOf(inside, inside.length + 1);
        all[inside.length] = RingOfThirds.class;
        for (Class<?> one : all) {
            int fields = 0;
            for (Field field : one.getDeclaredFields()) {
                if (!Modifier.isStatic(field.getModifiers())) fields++;
                due.holds(field + " is of a type that is told", isTypeTold(field.getType()));
            }
            due.holds(one + " has at most twenty fields", fields <= 20);
            for (Method method : one.getDeclaredMethods()) {
                due.holds(method + " takes at most seven parameters", method.getParameterCount() <= 7);
            }
        }
    }

    private static boolean isTypeTold(Class<?> type) {
        Class<?> part = type.isArray() ? type.getComponentType() : type;
        return part.isPrimitive() || part.getNestHost() == RingOfThirds.class;
    }

    private static void words() throws Exception {
        String source = Files.readString(Path.of(SOURCE), StandardCharsets.ISO_8859_1);
        String code = source.replaceAll("(?s)/\\*.*?\\*/", "").replaceAll("//[^\n]*", "").replaceAll("'.'", "' '");
        String refused = "\\b(throw|throws|try|catch|finally|synchronized|assert|package|record|float|double)\\b"
            + "|->|::|@|Exact\\b|\\bSystem\\.(?!arraycopy)|[^\\x00-\\x7f]|\\bstatic\\s*\\{";
        Matcher found = Pattern.compile(refused).matcher(code);
        due.holds("no word that LANGUAGE.md refuses", !found.find());
        Matcher imports = Pattern.compile("\\bimport\\s+([^;]*);").matcher(code);
        while (imports.find()) due.holds("import " + imports.group(1), imports.group(1).equals("java.util.Arrays"));
        Matcher library = Pattern.compile("\\b(Math|Arrays|Integer|Long|String|StringBuilder|List|ArrayList)\\b(\\.\\w+)?")
            .matcher(code.replaceAll("import [^;]*;", ""));
        while (library.find()) {
            due.holds(library.group() + " is told", library.group().matches("Math\\.(min|max)|Arrays\\.fill"));
        }
    }
}
