import java.io.IOException;
import java.lang.reflect.Method;
import java.lang.reflect.Modifier;
import java.nio.file.Files;
import java.nio.file.Path;
import java.util.Set;
import java.util.TreeSet;
import java.util.regex.Matcher;
import java.util.regex.Pattern;
import java.util.stream.Collectors;
import java.util.stream.Stream;

/** README.md: its examples answer as they say; every call, every constant and every test stands in it. */
public final class ReadmeTest {
    private static final Check check = new Check();
    private static final Pattern EXAMPLES = Pattern.compile("(?s)```java\n(.*?)```");
    private static final Pattern TOLD = Pattern.compile("for \\(char letter : \"([^\"]*)\"\\.toCharArray\\(\\)\\) \\{");
    private static final Pattern CALL = Pattern.compile("keepers\\.(\\w+)\\(([^)]*)\\); +// (-?\\d+): .*");
    private static final Pattern CALL_ROW = Pattern.compile("(?m)^\\| `(\\w+\\([^)]*\\))` \\|");
    private static final Pattern TEST_ROW = Pattern.compile("(?m)^\\| (\\w+Test) \\|");

    private static ScytheKeepers keepers;
    private static int answered;

    public static void main(String[] args) throws Exception {
        String page = Files.readString(Path.of("README.md"));
        examples(page);
        calls(page);
        constants(page);
        tests(page);
        check.finish();
    }

    /** The examples are one run: what one has done the next finds done. */
    private static void examples(String page) throws Exception {
        for (Matcher m = EXAMPLES.matcher(page); m.find();) {
            for (String line : m.group(1).split("\n")) {
                example(line);
            }
        }
        check.holds("there are examples", answered > 0);
    }

    private static void example(String line) throws Exception {
        Matcher told = TOLD.matcher(line);
        Matcher call = CALL.matcher(line);
        if (line.equals("ScytheKeepers keepers = new ScytheKeepers();")) {
            keepers = new ScytheKeepers();
        } else if (told.matches()) {
            Check.write(keepers, told.group(1));
        } else if (call.matches()) {
            answered++;
            check.due(line, answer(call.group(1), call.group(2)), Long.parseLong(call.group(3)));
        } else {
            check.holds("known: " + line, line.equals("    keepers.type(letter);") || line.equals("}"));
        }
    }

    private static long answer(String name, String numbers) throws Exception {
        Object[] given = numbers.isEmpty() ? new Object[0]
                : Stream.of(numbers.split(", ")).map(Integer::valueOf).toArray();
        for (Method m : ScytheKeepers.class.getMethods()) {
            if (m.getName().equals(name) && m.getParameterCount() == given.length) {
                return ((Number) m.invoke(keepers, given)).longValue();
            }
        }
        throw new IllegalArgumentException("no such call: " + name + "(" + numbers + ")");
    }

    private static Set<String> rows(Pattern row, String page) {
        return row.matcher(page).results().map(r -> r.group(1)).collect(Collectors.toCollection(TreeSet::new));
    }

    /** With the names of parameters that the document's face has. */
    private static void calls(String page) throws IOException {
        Set<String> face = new TreeSet<>();
        Matcher m = Pattern.compile("(?m)^    public (?:int|long) (\\w+\\([^)]*\\));").matcher(Files.readString(Check.DOCUMENT));
        while (m.find()) {
            face.add(m.group(1).replace("int ", ""));
        }
        Set<String> rows = rows(CALL_ROW, page);
        check.due("calls of the face", face.size(), 21);
        check.holds("rows " + rows + " are the face's " + face, rows.equals(face));
    }

    private static void constants(String page) throws IllegalAccessException {
        String words = page.replaceAll("\\s+", " ");
        for (var field : ScytheKeepers.class.getFields()) {
            if (Modifier.isStatic(field.getModifiers())) {
                String said = "`" + field.getName() + "` (" + field.getInt(null) + ")";
                check.holds("it says " + said, words.contains(said));
            }
        }
    }

    private static void tests(String page) throws IOException {
        Set<String> files = new TreeSet<>();
        try (Stream<Path> all = Files.list(Path.of("src/test/java"))) {
            all.map(p -> p.getFileName().toString()).filter(n -> n.endsWith("Test.java"))
                    .forEach(n -> files.add(n.substring(0, n.length() - ".java".length())));
        }
        Set<String> rows = rows(TEST_ROW, page);
        check.holds("rows " + rows + " are the tests " + files, rows.equals(files));
    }
}
