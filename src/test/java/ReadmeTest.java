import java.io.IOException;
import java.lang.reflect.Method;
import java.nio.file.Files;
import java.nio.file.Path;
import java.util.List;
import java.util.Set;
import java.util.TreeSet;
import java.util.regex.Matcher;
import java.util.regex.Pattern;

/** What README.md says holds: its example answers as written there, it names every call of the face and every test. */
public final class ReadmeTest {
    private static final Pattern CALL = Pattern.compile("(x|Calls)\\.(\\w+)\\((.*)\\); *// (true|false|-?\\d+)\\b.*");
    private static final Pattern NAMED = Pattern.compile("`(\\w+)\\(");

    public static void main(String[] args) throws IOException, ReflectiveOperationException {
        Calls c = new Calls();
        c.promise("README.md");
        List<String> page = Files.readAllLines(Path.of("README.md"));
        runExample(c, page);
        namesEveryCall(c, page);
        namesEveryTest(c, page);
        c.finish();
    }

    private static void runExample(Calls c, List<String> page) throws ReflectiveOperationException {
        GaleBank x = new GaleBank();
        boolean inside = false;
        int calls = 0;
        for (String line : page) {
            if (line.startsWith("```")) {
                inside = line.equals("```java");
            } else if (inside && !line.isEmpty() && !line.equals("GaleBank x = new GaleBank();")) {
                Matcher m = CALL.matcher(line);
                c.due("a call with its answer: " + line, m.matches(), true);
                if (m.matches()) {
                    String got = m.group(1).equals("x") ? answer(x, m.group(2), m.group(3)) : told(x, m.group(2), m.group(3));
                    c.same(line, got, m.group(4));
                    calls++;
                }
            }
        }
        c.due("an example is there", calls > 20, true);
    }

    private static String answer(GaleBank x, String name, String numbers) throws ReflectiveOperationException {
        String[] written = numbers.isEmpty() ? new String[0] : numbers.split(", ");
        Class<?>[] kinds = new Class<?>[written.length];
        Object[] values = new Object[written.length];
        for (int i = 0; i < written.length; i++) {
            kinds[i] = int.class;
            values[i] = Long.decode(written[i]).intValue();
        }
        return String.valueOf(GaleBank.class.getMethod(name, kinds).invoke(x, values));
    }

    /** Of a call such as Calls.plan(x, "a text"). */
    private static String told(GaleBank x, String name, String values) throws ReflectiveOperationException {
        String text = values.substring("x, \"".length(), values.length() - 1);
        return String.valueOf(Calls.class.getDeclaredMethod(name, GaleBank.class, String.class).invoke(null, x, text));
    }

    private static void namesEveryCall(Calls c, List<String> page) {
        Set<String> face = new TreeSet<>();
        for (Method m : GaleBank.class.getDeclaredMethods()) {
            if (java.lang.reflect.Modifier.isPublic(m.getModifiers())) {
                face.add(m.getName());
            }
        }
        Set<String> named = new TreeSet<>();
        Matcher m = NAMED.matcher(String.join("\n", page));
        while (m.find()) {
            named.add(m.group(1));
        }
        c.same("the calls that it names", named.toString(), face.toString());
    }

    private static void namesEveryTest(Calls c, List<String> page) throws IOException {
        Set<String> there = new TreeSet<>();
        try (var files = Files.list(Path.of("src/test/java"))) {
            files.map(f -> f.getFileName().toString()).filter(f -> f.endsWith("Test.java"))
                    .forEach(f -> there.add(f.substring(0, f.length() - ".java".length())));
        }
        Set<String> named = new TreeSet<>();
        for (String line : page) {
            Matcher m = Pattern.compile("\\| `(\\w+Test)` \\|.*").matcher(line);
            if (m.matches()) {
                named.add(m.group(1));
            }
        }
        c.same("the tests in its table", named.toString(), there.toString());
    }
}
