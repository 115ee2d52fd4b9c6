import java.io.IOException;
import java.lang.reflect.Field;
import java.lang.reflect.Method;
import java.lang.reflect.Modifier;
import java.nio.file.Files;
import java.nio.file.Path;
import java.util.List;
import java.util.Set;
import java.util.TreeSet;
import java.util.regex.Matcher;
import java.util.regex.Pattern;
import java.util.stream.Stream;

/** README.md makes calls and says what they answer: they are made here. It is run from the project's folder. */
public final class ReadmeTest {
    private static final Due due = new Due("ReadmeTest");
    private static final Pattern CALL = Pattern.compile("x\\.(\\w+)\\(([^)]*)\\);\\s+// (-?\\d+|[A-Z]+)(:.*)?");

    private final Set<String> called = new TreeSet<>();
    private ToldScenes x = null;

    public static void main(String[] args) throws IOException, ReflectiveOperationException {
        String page = Files.readString(Path.of("README.md"));
        ReadmeTest test = new ReadmeTest();
        boolean isCode = false;
        for (String line : page.split("\n")) {
            if (line.startsWith("```")) {
                isCode = line.equals("```java");
            } else if (isCode) {
                test.take(line);
            }
        }
        test.namesAllCalls();
        namesAllConstants(page);
        namesAllTests(page);
        due.part("how to run the tests");
        due.holds("the command is named", page.contains("\n.ci/run\n") && Files.isExecutable(Path.of(".ci/run")));
        due.end();
    }

    private void take(String line) throws ReflectiveOperationException {
        due.part("a line of code");
        if (line.equals("ToldScenes x = new ToldScenes();")) {
            x = new ToldScenes();
            return;
        }
        Matcher call = CALL.matcher(line);
        boolean isCall = call.matches();
        due.holds(line + " is a call with its answer", isCall && x != null);
        if (isCall && x != null) {
            called.add(call.group(1));
            due.is(line, answer(call.group(1), call.group(2)), said(call.group(3)));
        }
    }

    private long answer(String name, String given) throws ReflectiveOperationException {
        String[] texts = given.isEmpty() ? new String[0] : given.split(", ");
        Object[] values = new Object[texts.length];
        Class<?>[] types = new Class<?>[texts.length];
        for (int i = 0; i < texts.length; i++) {
            boolean isTruth = texts[i].equals("true") || texts[i].equals("false");
            types[i] = isTruth ? boolean.class : int.class;
            values[i] = isTruth ? (Object) Boolean.valueOf(texts[i]) : (Object) Integer.valueOf(texts[i]);
        }
        return ((Number) ToldScenes.class.getMethod(name, types).invoke(x, values)).longValue();
    }

    private static long said(String text) throws ReflectiveOperationException {
        boolean isName = Character.isLetter(text.charAt(0));
        return isName ? ToldScenes.class.getField(text).getLong(null) : Long.parseLong(text);
    }

    private void namesAllCalls() {
        due.part("every call is shown");
        for (Method m : ToldScenes.class.getDeclaredMethods()) {
            if (Modifier.isPublic(m.getModifiers())) {
                due.holds(m.getName(), called.contains(m.getName()));
            }
        }
    }

    private static void namesAllConstants(String page) throws ReflectiveOperationException {
        due.part("every constant is told");
        for (Field f : ToldScenes.class.getFields()) {
            boolean isLost = f.getName().equals("LOST");
            String value = isLost ? "`Long.MIN_VALUE`" : Long.toString(f.getLong(null));
            due.holds(f.getName(), page.contains("`" + f.getName() + "` (" + value + ")"));
        }
    }

    private static void namesAllTests(String page) throws IOException {
        due.part("every test is in the table");
        List<String> files;
        try (Stream<Path> all = Files.list(Path.of("src/test/java"))) {
            files = all.map(file -> file.getFileName().toString()).sorted().toList();
        }
        for (String file : files) {
            if (file.endsWith("Test.java")) {
                String name = file.substring(0, file.length() - ".java".length());
                due.holds(name, page.contains("\n| `" + name + "` |"));
            }
        }
    }
}
