import java.lang.reflect.Constructor;
import java.lang.reflect.Field;
import java.lang.reflect.InvocationTargetException;
import java.lang.reflect.Method;
import java.lang.reflect.Modifier;
import java.nio.charset.StandardCharsets;
import java.nio.file.Files;
import java.nio.file.Path;
import java.util.ArrayList;
import java.util.List;
import java.util.Set;
import java.util.TreeSet;
import java.util.regex.Matcher;
import java.util.regex.Pattern;

/** The public face, that no call throws, and those rules of LANGUAGE.md that can be read off the class and its file. */
public final class FaceTest {
    private static final Check check = new Check();
    private static final Path FILE = Path.of("src/main/java/ScytheKeepers.java");
    private static final Set<String> METHODS = new TreeSet<>(Set.of(
            "int type(int)", "int clear()", "int valley()", "int farmer(int,int)", "int now(int)", "int day(int)",
            "int brings(int)", "int hangs(int,int)", "int undo()", "int start(int)", "int hang(int)",
            "int odds(int,int,int,int)", "int sees(int,int,int)", "int forget()", "int ones(int)", "int look(int)",
            "int rate(int,int)", "int keep(int)", "int back(int)", "int count(int)", "long trace()"));
    private static final Set<String> CONSTANTS = new TreeSet<>(Set.of("BAD", "STATE", "FULL", "NONE", "NO"));
    private static final Set<String> LIBRARY = Set.of("Integer.bitCount", "Math.min", "Math.max", "Math.abs",
            "System.arraycopy");
    private static final int[] NUMBERS = {Integer.MIN_VALUE, -1000, -2, -1, 0, 1, 2, 3, 4, 5, 6, 7, 8, 9, 10, 11, 20,
        21, 59, 102, 255, 256, 1000, Integer.MAX_VALUE};

    public static void main(String[] args) throws Exception {
        constants();
        face();
        classesInside();
        file();
        noCallThrows();
        check.finish();
    }

    private static void constants() {
        check.due("BAD", ScytheKeepers.BAD, -1);
        check.due("STATE", ScytheKeepers.STATE, -2);
        check.due("FULL", ScytheKeepers.FULL, -3);
        check.due("NONE", ScytheKeepers.NONE, -9);
        check.due("NO", ScytheKeepers.NO, -1000000);
    }

    private static String signature(Method m) {
        List<String> types = new ArrayList<>();
        for (Class<?> type : m.getParameterTypes()) {
            types.add(type.getName());
        }
        return m.getReturnType().getName() + " " + m.getName() + "(" + String.join(",", types) + ")";
    }

    private static void face() {
        Class<?> c = ScytheKeepers.class;
        check.holds("the class is public and final", Modifier.isPublic(c.getModifiers()) && Modifier.isFinal(c.getModifiers()));
        Set<String> methods = new TreeSet<>();
        for (Method m : c.getDeclaredMethods()) {
            if (!Modifier.isPrivate(m.getModifiers())) {
                methods.add((Modifier.isPublic(m.getModifiers()) ? "" : "hidden ") + signature(m));
            }
        }
        check.holds("methods: " + methods, methods.equals(METHODS));
        Set<String> constants = new TreeSet<>();
        for (Field field : c.getDeclaredFields()) {
            if (!Modifier.isPrivate(field.getModifiers())) {
                constants.add((Modifier.toString(field.getModifiers()).equals("public static final") ? "" : "not ")
                        + field.getName());
            }
        }
        check.holds("constants: " + constants, constants.equals(CONSTANTS));
        Constructor<?>[] made = c.getDeclaredConstructors();
        check.holds("one public constructor without parameters", made.length == 1
                && Modifier.isPublic(made[0].getModifiers()) && made[0].getParameterCount() == 0);
    }

    private static void classesInside() {
        List<Class<?>> all = new ArrayList<>(List.of(ScytheKeepers.class));
        for (Class<?> inside : ScytheKeepers.class.getDeclaredClasses()) {
            int m = inside.getModifiers();
            check.holds(inside + " is static and not public", Modifier.isStatic(m) && !Modifier.isPublic(m) && !Modifier.isProtected(m));
            all.add(inside);
        }
        check.holds("twelve classes at most", all.size() <= 12);
        for (Class<?> c : all) {
            int own = 0;
            for (Field field : c.getDeclaredFields()) {
                boolean fixed = Modifier.isStatic(field.getModifiers());
                own += fixed ? 0 : 1;
                check.holds(field + " is final, if static", !fixed || Modifier.isFinal(field.getModifiers()));
            }
            check.holds(c + " has twenty fields at most", own <= 20);
            for (Method m : c.getDeclaredMethods()) {
                check.holds(m + " has seven parameters at most", m.getParameterCount() <= 7);
                boolean named = METHODS.stream().anyMatch(s -> s.contains(" " + m.getName() + "("));
                check.holds(m + " bears no public one's name", !Modifier.isPrivate(m.getModifiers()) || !named);
            }
        }
    }

    private static void file() throws Exception {
        String text = new String(Files.readAllBytes(FILE), StandardCharsets.ISO_8859_1);
        check.holds("signs are 1 to 127", text.chars().allMatch(sign -> sign >= 1 && sign <= 127));
        String code = text.replaceAll("(?s)/\\*.*?\\*/", " ").replaceAll("//[^\n]*", " ");
        Matcher word = Pattern.compile("\\b(throw|throws|try|catch|finally|synchronized|assert|import|package|native"
                + "|volatile|double|float|equals|hashCode|toString|Object|Exception|Thread|\\w+Exact)\\b|->|::|@").matcher(code);
        check.holds("nothing that the rules leave out", !word.find());
        Matcher library = Pattern.compile("\\b(Integer|Long|Math|System|Arrays|List|Character|Boolean|String|StringBuilder)\\.\\w+")
                .matcher(code);
        while (library.find()) {
            check.holds(library.group() + " is in the rules' library", LIBRARY.contains(library.group()));
        }
        methodsAreShort(text);
        onlyConstructorsMake(code);
    }

    private static void methodsAreShort(String text) {
        int from = 0;
        String[] lines = text.split("\n");
        for (int i = 0; i < lines.length; i++) {
            if (lines[i].matches(" {4,8}(public|private).*\\{")) {
                from = i;
            }
            if (lines[i].matches(" {4,8}\\}") && lines[from].contains("(")) {
                check.holds("sixty lines at most: " + lines[from].trim(), i - from < 60);
            }
        }
    }

    /** All calls of a run live in one room: rows are made once, in constructors and where fields stand. */
    private static void onlyConstructorsMake(String code) {
        String header = "";
        String end = "";
        for (String line : code.split("\n")) {
            if (line.matches(" {4,8}(public|private) .*\\) *\\{")) {
                header = line.trim();
                end = line.substring(0, line.indexOf(header)) + "}";
            } else if (line.equals(end)) {
                header = "";
            }
            boolean constructs = header.isEmpty() || header.matches("(public|private) [A-Z]\\w*\\(.*");
            check.holds("nothing is made in " + header, constructs || !line.matches(".*\\b(new|clone|copyOf|copyOfRange)\\b.*"));
        }
    }

    private static void noCallThrows() throws Exception {
        String full = "f0 1 0 0 5;f9 9 20 6 0;f30 3 4 2 1;f7 2 20 1 1;f7 9 3 6 3;f1 4 9 3 4;";
        String[] texts = {"", "f0 1 0 0 1;f3 9 20 6 0;", full};
        for (String text : texts) {
            for (Method m : ScytheKeepers.class.getMethods()) {
                if (m.getDeclaringClass() == ScytheKeepers.class) {
                    callWithAll(m, Check.told(text), new Object[m.getParameterCount()], 0);
                    ScytheKeepers later = Check.told(text);
                    Check.days(later, 1, 25);
                    callWithAll(m, later, new Object[m.getParameterCount()], 0);
                }
            }
        }
    }

    private static void callWithAll(Method m, ScytheKeepers x, Object[] numbers, int from) throws Exception {
        if (from == numbers.length) {
            try {
                m.invoke(x, numbers);
            } catch (InvocationTargetException e) {
                check.holds(m.getName() + List.of(numbers) + " threw " + e.getCause(), false);
            }
            return;
        }
        // four parameters by all numbers would be too many calls: every other one then
        for (int i = 0; i < NUMBERS.length; i += numbers.length > 3 ? 2 : 1) {
            numbers[from] = NUMBERS[i];
            callWithAll(m, x, numbers, from + 1);
        }
    }
}
