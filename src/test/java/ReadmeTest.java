import java.io.IOException;
import java.io.UncheckedIOException;
import java.lang.reflect.InvocationTargetException;
import java.lang.reflect.Method;
import java.lang.reflect.Modifier;
import java.nio.file.Files;
import java.nio.file.Path;
import java.util.Arrays;
import java.util.List;
import java.util.Set;
import java.util.TreeSet;
import java.util.regex.Matcher;
import java.util.regex.Pattern;
import java.util.stream.Stream;

/** README.md tells what is so: its example answers what it says, and it names every call and every test. */
public final class ReadmeTest {
    private static final Path README = Path.of("README.md");
    private static final Path TESTS = Path.of("src/test/java");
    private static final Pattern CALL = Pattern.compile("text\\.(\\w+)\\((.*)\\); *// (-?\\w+): .*");
    private static final Pattern ROW = Pattern.compile("\\| `(\\w+)\\((.*?)\\)` \\|.*");

    public static void main(String[] args) {
        Check.test("README.md: the example answers as it says", ReadmeTest::exampleAnswersAsItSays);
        Check.test("README.md: the example makes every call", ReadmeTest::exampleMakesEveryCall);
        Check.test("README.md: the table tells every call", ReadmeTest::tableTellsEveryCall);
        Check.test("README.md: BAD, FULL and NONE are told", ReadmeTest::refusalsAreTold);
        Check.test("README.md: every test is named", ReadmeTest::everyTestIsNamed);
        Check.end();
    }

    private static List<String> lines() {
        try {
            return Files.readAllLines(README);
        } catch (IOException e) {
            throw new UncheckedIOException(e);
        }
    }

    private static void exampleAnswersAsItSays() {
        SideTreeText text = new SideTreeText();
        for (String line : lines()) {
            Matcher call = CALL.matcher(line);
            if (call.matches()) {
                Check.due(line, make(text, call.group(1), call.group(2)), numberOf(call.group(3)));
            } else {
                Check.due("no answer is told in: " + line, line.startsWith("text."), false);
            }
        }
    }

    private static Object make(SideTreeText text, String name, String written) {
        Integer[] arguments = written.isEmpty() ? new Integer[0]
                : Stream.of(written.split(", ")).map(ReadmeTest::numberOf).toArray(Integer[]::new);
        Class<?>[] types = new Class<?>[arguments.length];
        Arrays.fill(types, int.class);
        try {
            return SideTreeText.class.getMethod(name, types).invoke(text, (Object[]) arguments);
        } catch (NoSuchMethodException | IllegalAccessException | InvocationTargetException e) {
            throw new IllegalStateException(e);
        }
    }

    private static Integer numberOf(String written) {
        if (written.startsWith("'")) {
            return (int) written.charAt(1);
        }
        return switch (written) {
            case "BAD" -> SideTreeText.BAD;
            case "FULL" -> SideTreeText.FULL;
            case "NONE" -> SideTreeText.NONE;
            default -> Integer.valueOf(written);
        };
    }

    private static Set<String> faceCalls() {
        Set<String> calls = new TreeSet<>();
        for (Method m : SideTreeText.class.getDeclaredMethods()) {
            if (Modifier.isPublic(m.getModifiers())) {
                calls.add(m.getName() + " with " + m.getParameterCount());
            }
        }
        return calls;
    }

    private static Set<String> callsOf(Pattern pattern) {
        Set<String> calls = new TreeSet<>();
        for (String line : lines()) {
            Matcher call = pattern.matcher(line);
            if (call.matches()) {
                int arguments = call.group(2).isEmpty() ? 0 : call.group(2).split(", ").length;
                calls.add(call.group(1) + " with " + arguments);
            }
        }
        return calls;
    }

    private static void exampleMakesEveryCall() {
        Check.due("calls of the example", callsOf(CALL), faceCalls());
    }

    private static void tableTellsEveryCall() {
        Check.due("calls of the table", callsOf(ROW), faceCalls());
    }

    private static void refusalsAreTold() {
        String all = String.join("\n", lines());
        Check.due("BAD", all.contains("`SideTreeText.BAD` (" + SideTreeText.BAD + ")"), true);
        Check.due("FULL", all.contains("`SideTreeText.FULL` (" + SideTreeText.FULL + ")"), true);
        Check.due("NONE", all.contains("`SideTreeText.NONE` (" + SideTreeText.NONE + ")"), true);
    }

    private static void everyTestIsNamed() {
        String all = String.join("\n", lines());
        try (Stream<Path> files = Files.list(TESTS)) {
            files.map(file -> file.getFileName().toString()).filter(name -> name.endsWith("Test.java")).sorted()
                    .forEach(name -> Check.due(name, all.contains("| `" + name.replace(".java", "") + "` |"), true));
        } catch (IOException e) {
            throw new UncheckedIOException(e);
        }
    }
}
