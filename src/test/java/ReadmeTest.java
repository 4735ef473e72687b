import java.io.IOException;
import java.lang.reflect.Method;
import java.lang.reflect.Modifier;
import java.nio.file.DirectoryStream;
import java.nio.file.Files;
import java.nio.file.Path;
import java.util.ArrayList;
import java.util.List;
import java.util.regex.Matcher;
import java.util.regex.Pattern;

/** README.md tells every call and every test, and its calls answer what stands behind them there. */
public final class ReadmeTest {
    private static final Pattern CALL = Pattern.compile("book\\.(\\w+)\\((.*)\\)");
    private static final Pattern LINE = Pattern.compile("(book\\..*\\));\\s*// (-?\\d+|true|false): .*");

    private static int wrong = 0;
    private static int asked = 0;

    private static void expect(String what, boolean holds) {
        if (!holds) {
            wrong++;
            System.out.println("README.md: " + what);
        }
    }

    /** The parts between the commas that stand in no inner brackets. */
    private static List<String> split(String row) {
        List<String> parts = new ArrayList<>();
        int depth = 0;
        int from = 0;
        for (int i = 0; i < row.length(); i++) {
            char c = row.charAt(i);
            depth += c == '(' ? 1 : c == ')' ? -1 : 0;
            if (c == ',' && depth == 0) {
                parts.add(row.substring(from, i).trim());
                from = i + 1;
            }
        }
        if (!row.isBlank()) {
            parts.add(row.substring(from).trim());
        }
        return parts;
    }

    private static Object answer(EditionBook book, String expression) throws ReflectiveOperationException {
        Matcher call = CALL.matcher(expression);
        if (!call.matches()) {
            return Integer.valueOf(expression);
        }
        List<String> parts = split(call.group(2));
        Class<?>[] types = new Class<?>[parts.size()];
        Object[] arguments = new Object[parts.size()];
        for (int i = 0; i < arguments.length; i++) {
            types[i] = int.class;
            arguments[i] = answer(book, parts.get(i));
        }
        return EditionBook.class.getMethod(call.group(1), types).invoke(book, arguments);
    }

    private static void followCalls(List<String> lines) throws ReflectiveOperationException {
        EditionBook book = null;
        boolean inJava = false;
        for (String line : lines) {
            if (line.startsWith("```")) {
                inJava = line.equals("```java");
            } else if (inJava && line.equals("EditionBook book = new EditionBook();")) {
                book = new EditionBook();
            } else if (inJava && !line.isEmpty()) {
                Matcher told = LINE.matcher(line);
                expect("a line that tells no answer: " + line, told.matches());
                if (told.matches()) {
                    asked++;
                    String got = answer(book, told.group(1)).toString();
                    expect(told.group(1) + " answered " + got + ", told is " + told.group(2), got.equals(told.group(2)));
                }
            }
        }
        expect("no calls with their answers", asked > 0);
    }

    private static void tellsAll(String text) throws IOException {
        for (Method m : EditionBook.class.getDeclaredMethods()) {
            if (Modifier.isPublic(m.getModifiers())) {
                expect(m.getName() + " isn't told", text.contains("| `" + m.getName() + "(")
                    || text.contains(", `" + m.getName() + "("));
            }
        }
        try (DirectoryStream<Path> tests = Files.newDirectoryStream(Path.of("src/test/java"), "*.java")) {
            for (Path test : tests) {
                String name = test.getFileName().toString().replace(".java", "");
                expect(name + " isn't told", text.contains("`" + name + "`"));
            }
        }
        expect("how to run the tests isn't told", text.contains("\n.ci/run\n"));
    }

    public static void main(String[] args) throws IOException, ReflectiveOperationException {
        Path file = Path.of("README.md");
        followCalls(Files.readAllLines(file));
        tellsAll(Files.readString(file));
        System.out.println(wrong == 0 ? "README.md holds, by " + asked + " answers" : wrong + " things do not hold");
        if (wrong != 0) {
            System.exit(1);
        }
    }
}
