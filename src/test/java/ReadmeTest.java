import java.io.IOException;
import java.lang.reflect.Method;
import java.lang.reflect.Modifier;
import java.nio.file.Files;
import java.nio.file.Path;
import java.util.HashMap;
import java.util.Map;
import java.util.regex.Matcher;
import java.util.regex.Pattern;

/** README.md: its example answers as it says, and its table has each call as the document's promise tells it. */
public final class ReadmeTest {
    private static final Due DUE = new Due("ReadmeTest");
    private static final Pattern TEXT = Pattern.compile("String text = \"([^\"]*)\";");
    private static final Pattern CALL = Pattern.compile("(?m)^x\\.(\\w+)\\(([-0-9, ]*)\\);(?:\\s*// (-?\\d+)\\b)?");
    private static final Pattern ENTRY = Pattern.compile("(?m)^\\| (\\d+) \\| `(\\w+)\\(([^)]*)\\)` \\| \\S");
    private static final Pattern PROMISE = Pattern.compile("## Promise (\\d+): \\w+\\s+`\\w+ (\\w+)\\(([^)]*)\\)`");

    public static void main(String[] args) throws ReflectiveOperationException, IOException {
        String readme = Files.readString(Path.of("README.md"));
        Path document = Path.of(args.length > 1 ? args[1] : "../shared/DOC.md");
        example(readme);
        table(readme, Files.readString(document));
        tests(readme);
        DUE.end();
    }

    private static Map<String, Method> face() {
        Map<String, Method> face = new HashMap<>();
        for (Method m : AsleepCots.class.getDeclaredMethods()) {
            if (Modifier.isPublic(m.getModifiers())) {
                face.put(m.getName(), m);
            }
        }
        return face;
    }

    private static void example(String readme) throws ReflectiveOperationException {
        int start = readme.indexOf("```java");
        String code = readme.substring(start, readme.indexOf("```", start + 3));
        Matcher text = TEXT.matcher(code);
        DUE.holds("the example tells a text", text.find());
        AsleepCots x = Due.fed(text.group(1));
        Map<String, Method> face = face();
        int calls = 0;
        for (Matcher call = CALL.matcher(code); call.find(); calls++) {
            String words = "README: x." + call.group(1) + "(" + call.group(2) + ")";
            DUE.holds(words + " says its answer", call.group(3) != null);
            Object[] numbers = call.group(2).isBlank() ? new Object[0]
                : Pattern.compile(", *").splitAsStream(call.group(2)).map(Integer::valueOf).toArray();
            long got = ((Number) face.get(call.group(1)).invoke(x, numbers)).longValue();
            DUE.is(words, got, call.group(3) == null ? 0 : Long.parseLong(call.group(3)));
        }
        DUE.is("README: every line of the example was run", calls, code.lines().filter(l -> l.startsWith("x.")).count());
    }

    private static void table(String readme, String document) {
        Map<String, String> entries = new HashMap<>();
        for (Matcher entry = ENTRY.matcher(readme); entry.find();) {
            entries.put(entry.group(1), entry.group(2) + "(" + entry.group(3) + ")");
        }
        int promises = 0;
        for (Matcher promise = PROMISE.matcher(document); promise.find(); promises++) {
            String call = promise.group(2) + "(" + promise.group(3).replaceAll("\\bint ", "") + ")";
            DUE.holds("README: promise " + promise.group(1) + " is " + call, call.equals(entries.get(promise.group(1))));
        }
        DUE.is("README: as many entries as calls", entries.size(), face().size());
        DUE.is("README: as many entries as promises of a call", entries.size(), promises);
    }

    private static void tests(String readme) throws IOException {
        DUE.holds("README: how to run the tests", readme.contains("    bash .ci/run\n"));
        try (var files = Files.list(Path.of("src/test/java"))) {
            for (Path file : files.filter(f -> f.toString().endsWith("Test.java")).toList()) {
                String name = file.getFileName().toString().replace(".java", "");
                DUE.holds("README: names " + name, readme.contains("- `" + name + "`: "));
            }
        }
    }
}
