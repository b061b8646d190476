import java.io.IOException;
import java.lang.reflect.Executable;
import java.lang.reflect.Field;
import java.lang.reflect.Method;
import java.lang.reflect.Modifier;
import java.nio.file.Files;
import java.nio.file.Path;
import java.util.ArrayList;
import java.util.List;
import java.util.Set;
import java.util.TreeSet;
import java.util.regex.Matcher;
import java.util.regex.Pattern;

/** LANGUAGE.md's rules, as far as they can be seen from the source and from the compiled classes. */
public final class LanguageTest {
    private static final Path SOURCE = Path.of("src/main/java/StackMarks.java");
    /** Rules 2 to 4, 6, 10 and 13; the class needs no library beyond java.lang, so no import either. */
    private static final String[] NOT_USED = {
        "package", "import", "try", "catch", "finally", "synchronized", "assert", "instanceof",
        "equals", "hashCode", "toString", "getMessage", "System", "Thread", "Random", "double", "float"
    };
    private static final Check check = new Check();

    public static void main(String[] args) throws IOException {
        List<String> lines = Files.readAllLines(SOURCE);
        List<Class<?>> classes = new ArrayList<>(List.of(StackMarks.class.getDeclaredClasses()));
        check.isTrue("rule 11: at most twelve classes", classes.size() < 12);
        classes.add(StackMarks.class);
        words(code(lines));
        methodsAreShort(lines);
        for (Class<?> one : classes) {
            fields(one);
            parameters(one);
            ownNames(one);
        }
        check.end();
    }

    /** The source without comments and texts. */
    private static String code(List<String> lines) {
        String all = String.join("\n", lines);
        return all.replaceAll("(?s)/\\*.*?\\*/", "").replaceAll("//[^\n]*", "").replaceAll("\"[^\"]*\"", "\"\"");
    }

    private static void words(String code) {
        for (String word : NOT_USED) {
            check.isTrue("no " + word, !Pattern.compile("\\b" + word + "\\b").matcher(code).find());
        }
        check.isTrue("rule 2: no lambda, no method reference", !code.contains("->") && !code.contains("::"));
        check.isTrue("rule 4: nothing whose name ends in Exact", !code.contains("Exact("));
        Matcher thrown = Pattern.compile("\\bthrow\\b(.*)").matcher(code);
        while (thrown.find()) {
            check.due("rule 6: what is thrown", thrown.group(1).trim(), "new IllegalStateException(\"\");");
        }
    }

    /** Rule 11; a method ends at the first line that closes as far in as it began. */
    private static void methodsAreShort(List<String> lines) {
        Pattern head = Pattern.compile("( {4}| {8})(private|public) [^=;]*\\{");
        int methods = 0;
        for (int i = 0; i < lines.size(); i++) {
            Matcher m = head.matcher(lines.get(i));
            if (m.matches() && !lines.get(i).contains(" class ")) {
                int end = lines.subList(i, lines.size()).indexOf(m.group(1) + "}");
                check.isTrue("rule 11: " + end + " lines from " + lines.get(i), end > 0 && end <= 60);
                methods++;
            }
        }
        check.isTrue("the methods were found", methods > 40);
    }

    private static void fields(Class<?> one) {
        int own = 0;
        for (Field f : one.getDeclaredFields()) {
            boolean isStatic = Modifier.isStatic(f.getModifiers());
            own += isStatic ? 0 : 1;
            check.isTrue("rule 5: " + f + " is final", !isStatic || Modifier.isFinal(f.getModifiers()));
            check.isTrue("rule 5: " + f + " is an int or ints",
                    !isStatic || f.getType() == int.class || f.getType() == int[].class);
        }
        check.isTrue("rule 11: at most twenty fields in " + one, own <= 20);
    }

    private static void parameters(Class<?> one) {
        List<Executable> all = new ArrayList<>(List.of(one.getDeclaredMethods()));
        all.addAll(List.of(one.getDeclaredConstructors()));
        for (Executable e : all) {
            check.isTrue("rule 11: at most seven parameters of " + e, e.getParameterCount() <= 7);
        }
    }

    /** Rule 1: no private method bears the name of a public one, the classes inside with it. */
    private static void ownNames(Class<?> one) {
        Set<String> face = new TreeSet<>();
        for (Method m : StackMarks.class.getDeclaredMethods()) {
            if (Modifier.isPublic(m.getModifiers())) {
                face.add(m.getName());
            }
        }
        for (Method m : one.getDeclaredMethods()) {
            boolean isPublic = Modifier.isPublic(m.getModifiers());
            check.isTrue("rule 1: " + m + " has a name of its own", isPublic || !face.contains(m.getName()));
        }
    }
}
