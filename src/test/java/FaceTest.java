import java.lang.reflect.Field;
import java.lang.reflect.Method;
import java.lang.reflect.Modifier;
import java.nio.file.Files;
import java.nio.file.Path;
import java.util.Arrays;
import java.util.Set;
import java.util.TreeSet;
import java.util.regex.Matcher;
import java.util.regex.Pattern;

/** The public face of the document, and rules of LANGUAGE.md that can be looked at from outside. */
public final class FaceTest {
    private static final Due DUE = new Due();
    private static final Path SOURCE = Path.of("src/main/java/SpanStore.java");
    private static final String[] FACE = {
        "int about(int,int,int)", "int change(int,int,int,int)", "int clear(int)", "int copy(int,int,int,int,int)",
        "int count(int,int,int)", "long digest()", "int get(int,int,int)", "int join(int)",
        "int keeper(int,int,int,int)", "int load(int,int,int,int,int,int)", "int lose(int)", "int next(int,int)",
        "int part(int,int)", "int put(int,int,int,int)", "int read(int,int)", "int refine(int,int,int)",
        "int row(int,int,int,int,int)", "int seal(int)", "int sheet(int,int,int)", "long sum(int,int,int)",
        "int told(int)", "int value(int,int,int)", "int write(int,int,int,int)",
    };

    public static void main(String[] args) throws Exception {
        constants();
        methods();
        members();
        source();
        DUE.end();
    }

    private static void constants() {
        DUE.is("NONE", SpanStore.NONE, -1);
        DUE.is("BAD", SpanStore.BAD, -2);
        DUE.is("STATE", SpanStore.STATE, -3);
        DUE.is("FULL", SpanStore.FULL, -4);
        DUE.is("NOT", SpanStore.NOT, -5);
    }

    private static String signature(Method m) {
        String[] types = Arrays.stream(m.getParameterTypes()).map(Class::getSimpleName).toArray(String[]::new);
        return m.getReturnType().getSimpleName() + " " + m.getName() + "(" + String.join(",", types) + ")";
    }

    private static void methods() {
        Set<String> open = new TreeSet<>();
        Set<String> openNames = new TreeSet<>();
        Set<String> hiddenNames = new TreeSet<>();
        for (Method m : SpanStore.class.getDeclaredMethods()) {
            if (Modifier.isPublic(m.getModifiers())) {
                open.add(signature(m));
                openNames.add(m.getName());
                DUE.holds(m.getName() + " is of the object", !Modifier.isStatic(m.getModifiers()));
            } else {
                hiddenNames.add(m.getName());
                DUE.holds("rule 1: private " + m.getName(), Modifier.isPrivate(m.getModifiers()));
            }
        }
        DUE.holds("the public methods are " + open, open.equals(new TreeSet<>(Arrays.asList(FACE))));
        hiddenNames.retainAll(openNames);
        DUE.holds("rule 1: names of public ones: " + hiddenNames, hiddenNames.isEmpty());
    }

    private static void members() {
        DUE.holds("rule 1: final", Modifier.isFinal(SpanStore.class.getModifiers()));
        DUE.is("constructors", SpanStore.class.getConstructors().length, SpanStore.class.getDeclaredConstructors().length);
        DUE.is("public fields", SpanStore.class.getFields().length, 5);
        for (Field f : SpanStore.class.getDeclaredFields()) {
            boolean open = Modifier.isPublic(f.getModifiers());
            DUE.holds("rule 1: " + f.getName(), open || Modifier.isPrivate(f.getModifiers()));
        }
        Class<?>[] inside = SpanStore.class.getDeclaredClasses();
        DUE.holds("rule 11: classes", inside.length < 12);
        for (Class<?> c : inside) {
            DUE.holds("rule 2: " + c.getName(), Modifier.isStatic(c.getModifiers()));
            stateOf(c);
        }
        stateOf(SpanStore.class);
    }

    private static void stateOf(Class<?> c) {
        int own = 0;
        for (Field f : c.getDeclaredFields()) {
            boolean shared = Modifier.isStatic(f.getModifiers());
            DUE.holds("rule 5: " + f.getName(), !shared || Modifier.isFinal(f.getModifiers()));
            own += shared ? 0 : 1;
        }
        DUE.holds("rule 11: fields of " + c.getName(), own <= 20);
        for (Method m : c.getDeclaredMethods()) {
            DUE.holds("rule 11: parameters of " + m.getName(), m.getParameterCount() <= 7);
        }
    }

    private static void source() throws Exception {
        String text = Files.readString(SOURCE).replaceAll("(?s)/\\*.*?\\*/", "").replaceAll("//[^\n]*", "");
        String[] words = {
            "package", "throws?", "try", "catch", "finally", "synchronized", "assert", "volatile", "native",
            "\\w+Exact", "System\\.(?!arraycopy)\\w+", "Thread", "Random", "hashCode", "equals",
        };
        for (String word : words) {
            DUE.holds("rules 4, 6, 13: " + word, !Pattern.compile("\\b" + word + "\\b").matcher(text).find());
        }
        DUE.holds("rule 2: no lambda", !text.contains("->") && !text.contains("::"));
        Matcher imports = Pattern.compile("\\bimport\\s+([\\w.*]+)").matcher(text);
        while (imports.find()) {
            DUE.holds("rule 4: " + imports.group(1), imports.group(1).equals("java.util.Arrays"));
        }
        methodLengths();
    }

    private static void methodLengths() throws Exception {
        int length = 0;
        for (String line : Files.readAllLines(SOURCE)) {
            boolean starts = line.matches("( {4}| {8})\\S.*\\) \\{") && !line.contains(" if (") && !line.contains(" for (");
            length = starts ? 0 : length + 1;
            if (line.matches("( {4}| {8})\\}")) {
                DUE.holds("rule 11: a method of " + length + " lines", length <= 60);
                length = 0;
            }
        }
    }
}
