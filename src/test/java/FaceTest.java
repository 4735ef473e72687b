import java.io.IOException;
import java.lang.reflect.Constructor;
import java.lang.reflect.Field;
import java.lang.reflect.Method;
import java.lang.reflect.Modifier;
import java.nio.file.Files;
import java.nio.file.Path;
import java.util.ArrayList;
import java.util.List;
import java.util.Set;
import java.util.TreeSet;
import java.util.regex.Matcher;
import java.util.regex.Pattern;

/** The public face is the document's and no more, and the source keeps to the rules that can be seen by words. */
public final class FaceTest {
    private static int wrong = 0;

    private static final String[] FACE = {
        "int put(int,int,int,int,int)", "int wipe()", "int cell(int,int)", "int redo(int)", "int rerun(int)",
        "int rerunStale()", "int forget(int)", "int of(int,int)", "int leans(int,int)", "boolean stale(int)",
        "int written(int,int,int)", "int count(int)", "int newest(int)", "int edition(int,int)", "int classOf(int)",
        "int field(int,int,int)", "boolean is(int,int)", "int call(int,int,int)", "int came(int)",
        "int convert(int,int)", "boolean keep(int)", "boolean back(int)"};

    private static void expect(String what, boolean holds) {
        if (!holds) {
            wrong++;
            System.out.println(what);
        }
    }

    private static String told(Method m) {
        List<String> types = new ArrayList<>();
        for (Class<?> type : m.getParameterTypes()) {
            types.add(type.getName());
        }
        return m.getReturnType().getName() + " " + m.getName() + "(" + String.join(",", types) + ")";
    }

    private static void face() {
        Set<String> seen = new TreeSet<>();
        Set<String> names = new TreeSet<>();
        for (Method m : EditionBook.class.getDeclaredMethods()) {
            if (!Modifier.isPrivate(m.getModifiers()) && !m.isSynthetic()) {
                expect(m + " is not plainly public", Modifier.toString(m.getModifiers()).equals("public"));
                seen.add(told(m));
                names.add(m.getName());
            }
        }
        expect("the methods are " + seen, seen.equals(new TreeSet<>(List.of(FACE))));
        Set<String> constants = new TreeSet<>();
        for (Field f : EditionBook.class.getDeclaredFields()) {
            if (!Modifier.isPrivate(f.getModifiers())) {
                constants.add(Modifier.toString(f.getModifiers()) + " " + f.getType() + " " + f.getName());
            }
        }
        expect("the constants are " + constants, constants.equals(
            Set.of("public static final int NUMBER", "public static final int FULL")));
        Constructor<?>[] constructors = EditionBook.class.getConstructors();
        expect("one public constructor", constructors.length == 1 && constructors[0].getParameterCount() == 0);
        expect("public and final", Modifier.toString(EditionBook.class.getModifiers()).equals("public final"));
        for (Class<?> inside : EditionBook.class.getDeclaredClasses()) {
            expect(inside + " is static, not public", Modifier.isStatic(inside.getModifiers())
                && !Modifier.isPublic(inside.getModifiers()) && !Modifier.isProtected(inside.getModifiers()));
            for (Method m : inside.getDeclaredMethods()) {
                expect(m + " bears the name of a public one", !names.contains(m.getName()));
                expect(m + " takes more than seven", m.getParameterCount() <= 7);
            }
        }
    }

    private static void words() throws IOException {
        Path file = Path.of("src/main/java/EditionBook.java");
        String source = Files.readString(file).replaceAll("(?s)/\\*.*?\\*/", "").replaceAll("//[^\n]*", "");
        Matcher found = Pattern.compile("\\b(throw|throws|try|catch|synchronized|assert|package|"
            + "hashCode|toString|Random|Thread|System\\.(?!arraycopy)\\w+|\\w+Exact)\\b|->|::").matcher(source);
        while (found.find()) {
            expect("LANGUAGE.md leaves no '" + found.group() + "'", false);
        }
        Matcher imports = Pattern.compile("import ([\\w.]+);").matcher(source);
        while (imports.find()) {
            expect("import " + imports.group(1),
                Set.of("java.util.Arrays", "java.util.ArrayList", "java.util.List").contains(imports.group(1)));
        }
    }

    public static void main(String[] args) throws IOException {
        face();
        words();
        System.out.println(wrong == 0 ? "the face is as due" : wrong + " things are not as due");
        if (wrong != 0) {
            System.exit(1);
        }
    }
}
