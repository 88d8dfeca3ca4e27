import java.io.IOException;
import java.nio.file.Files;
import java.nio.file.Path;
import java.util.Arrays;
import java.util.List;
import java.util.TreeSet;
import java.util.regex.Matcher;
import java.util.regex.Pattern;
import java.util.stream.Collectors;
import java.util.stream.Stream;

/** That README.md is right: each call that it shows answers so, each call of the face is shown, each test is told. */
public final class ReadmeTest {
    private static final Due due = new Due("ReadmeTest");
    private static final Path OWN_TESTS = Path.of("src/test/java");
    private static final Pattern TYPED = Pattern.compile("for \\(.*\"(.*)\"\\.toCharArray\\(\\)\\) x\\.letter\\(letter\\);");
    private static final Pattern SHOWN = Pattern.compile("x\\.(\\w+)\\((.*)\\); +// (-?\\w+): .+");
    private static final Pattern TOLD_TEST = Pattern.compile("\\| `(\\w+Test)` \\|.*");

    public static void main(String[] args) throws IOException {
        List<String> lines = Files.readAllLines(Path.of("README.md"));
        TreeSet<String> called = callsShown(lines);
        due.holds("each call of the face is shown, not just " + called, called.equals(namesOfTheFace()));
        TreeSet<String> told = testsTold(lines);
        due.holds("each test is told, not just " + told, told.equals(testsThere()));
        due.holds("the script that it names is there", Files.isRegularFile(Path.of(".ci/run")));
        due.end();
    }

    /** Plays all that is shown on one object, from the first line to the last, and answers the names called. */
    private static TreeSet<String> callsShown(List<String> lines) {
        TreeSet<String> called = new TreeSet<>();
        RingOfThirds x = new RingOfThirds();
        boolean inCode = false;
        for (String line : lines) {
            if (line.startsWith("```")) {
                inCode = line.equals("```java");
            } else if (inCode) {
                play(x, line, called);
            }
        }
        return called;
    }

    private static void play(RingOfThirds x, String line, TreeSet<String> called) {
        Matcher typed = TYPED.matcher(line);
        Matcher shown = SHOWN.matcher(line);
        if (typed.matches()) {
            Texts.type(x, typed.group(1));
        } else if (shown.matches()) {
            due.of("README.md", x, numberOf(shown.group(3)), shown.group(1), numbersOf(shown.group(2)));
            called.add(shown.group(1));
        } else {
            due.holds("a new object is made: " + line, line.equals("RingOfThirds x = new RingOfThirds();"));
        }
    }

    private static long numberOf(String answer) {
        switch (answer) {
            case "NONE": return RingOfThirds.NONE;
            case "UNKNOWN": return RingOfThirds.UNKNOWN;
            case "OUTSIDE": return RingOfThirds.OUTSIDE;
            case "STATE": return RingOfThirds.STATE;
            case "FULL": return RingOfThirds.FULL;
            default: return Long.parseLong(answer);
        }
    }

    private static int[] numbersOf(String arguments) {
        if (arguments.isEmpty()) return new int[0];
        return Arrays.stream(arguments.split(", ")).mapToInt(ReadmeTest::numberOfArgument).toArray();
    }

    private static int numberOfArgument(String argument) {
        return argument.startsWith("'") ? argument.charAt(1) : Integer.parseInt(argument);
    }

    private static TreeSet<String> namesOfTheFace() {
        return Arrays.stream(RingOfThirds.class.getMethods())
            .filter(method -> method.getDeclaringClass() == RingOfThirds.class)
            .map(method -> method.getName())
            .collect(Collectors.toCollection(TreeSet::new));
    }

    private static TreeSet<String> testsTold(List<String> lines) {
        TreeSet<String> told = new TreeSet<>();
        for (String line : lines) {
            Matcher matcher = TOLD_TEST.matcher(line);
            if (matcher.matches()) told.add(matcher.group(1));
        }
        return told;
    }

    private static TreeSet<String> testsThere() throws IOException {
        try (Stream<Path> files = Files.list(OWN_TESTS)) {
            return files.map(file -> file.getFileName().toString())
                .filter(name -> name.endsWith("Test.java"))
                .map(name -> name.substring(0, name.length() - ".java".length()))
                .collect(Collectors.toCollection(TreeSet::new));
        }
    }
}
