import java.lang.reflect.Method;
import java.lang.reflect.Modifier;
import java.nio.file.Files;
import java.nio.file.Path;
import java.util.Arrays;
import java.util.List;
import java.util.Set;
import java.util.TreeSet;
import java.util.regex.Matcher;
import java.util.regex.Pattern;
import java.util.stream.Stream;

/** README.md: every call that it shows is asked, and its tables name all calls, answers and tests. */
public final class ReadmeTest {
    private static final Due DUE = new Due();
    private static final Path README = Path.of("README.md");
    private static final Path TESTS = Path.of("src/test/java");
    private static final Pattern SHOWN = Pattern.compile("x\\.(\\w+)\\(([-\\d, ]*)\\); +// (-?\\d+): \\S.*");
    private static final Pattern CALL = Pattern.compile("\\| `(\\w+)\\(([\\w, ]*)\\)` \\|.*");
    private static final Pattern ANSWER = Pattern.compile("\\| (-\\d+) \\| `(\\w+)` \\|.*");
    private static final Pattern FINDING = Pattern.compile("\\| (-\\d+) \\| finding (\\d), (\\w+) \\|.*");
    private static final Pattern TEST = Pattern.compile("\\| `(\\w+Test)` \\|.*");

    private static SpanStore x;

    public static void main(String[] args) throws Exception {
        List<String> lines = Files.readAllLines(README);
        shownCalls(lines);
        calls(lines);
        answers(lines);
        tests(lines);
        DUE.holds("it tells of .ci/run, which can be run", lines.contains(".ci/run") && Files.isExecutable(Path.of(".ci/run")));
        DUE.end();
    }

    private static Method methodOf(String name) {
        return Arrays.stream(SpanStore.class.getDeclaredMethods())
                .filter(m -> Modifier.isPublic(m.getModifiers()) && m.getName().equals(name)).findAny().orElse(null);
    }

    private static Set<String> face() {
        Set<String> names = new TreeSet<>();
        for (Method m : SpanStore.class.getDeclaredMethods()) {
            if (Modifier.isPublic(m.getModifiers())) {
                names.add(m.getName());
            }
        }
        return names;
    }

    private static String[] parts(String list) {
        return list.isEmpty() ? new String[0] : list.split(", ");
    }

    private static void shownCalls(List<String> lines) throws Exception {
        Set<String> shown = new TreeSet<>();
        boolean java = false;
        for (String line : lines) {
            if (line.startsWith("```")) {
                java = line.equals("```java");
                x = null;
            } else if (java && x == null) {
                DUE.holds("a new object comes first, not " + line, line.equals("SpanStore x = new SpanStore();"));
                x = new SpanStore();
            } else if (java) {
                shown.add(ask(line));
            }
        }
        DUE.holds("every call is shown, not " + shown + " alone", shown.equals(face()));
    }

    private static String ask(String line) throws Exception {
        Matcher m = SHOWN.matcher(line);
        Method method = m.matches() ? methodOf(m.group(1)) : null;
        DUE.holds("a call with its answer and why: " + line, method != null);
        if (method == null) {
            return "";
        }
        Object[] numbers = Arrays.stream(parts(m.group(2))).map(Integer::valueOf).toArray();
        DUE.is("parameters: " + line, numbers.length, method.getParameterCount());
        long answer = ((Number) method.invoke(x, numbers)).longValue();
        DUE.is(line, answer, Long.parseLong(m.group(3)));
        return m.group(1);
    }

    private static void calls(List<String> lines) {
        Set<String> told = new TreeSet<>();
        for (String line : lines) {
            Matcher m = CALL.matcher(line);
            if (m.matches()) {
                Method method = methodOf(m.group(1));
                int parameters = method == null ? -1 : method.getParameterCount();
                DUE.is("parameters: " + line, parts(m.group(2)).length, parameters);
                told.add(m.group(1));
            }
        }
        DUE.holds("every call is told of, not " + told + " alone", told.equals(face()));
    }

    private static void answers(List<String> lines) throws Exception {
        int refusals = 0;
        int findings = 0;
        for (String line : lines) {
            Matcher name = ANSWER.matcher(line);
            Matcher finding = FINDING.matcher(line);
            if (name.matches()) {
                DUE.is(line, Long.parseLong(name.group(1)), SpanStore.class.getField(name.group(2)).getInt(null));
                refusals++;
            } else if (finding.matches()) {
                long answer = Due.class.getDeclaredField(finding.group(3)).getInt(null);
                DUE.is(line, Long.parseLong(finding.group(1)), answer);
                DUE.is(line, -10 - Long.parseLong(finding.group(2)), answer);
                findings++;
            }
        }
        DUE.is("BAD, STATE, FULL, NOT", refusals, 4);
        DUE.is("findings", findings, 5);
    }

    private static void tests(List<String> lines) throws Exception {
        Set<String> told = new TreeSet<>();
        for (String line : lines) {
            Matcher m = TEST.matcher(line);
            if (m.matches()) {
                told.add(m.group(1) + ".java");
            }
        }
        Set<String> there = new TreeSet<>();
        try (Stream<Path> files = Files.list(TESTS)) {
            files.map(f -> f.getFileName().toString()).filter(f -> f.endsWith("Test.java")).forEach(there::add);
        }
        DUE.holds("the tests are " + there + ", not " + told, told.equals(there));
    }
}
