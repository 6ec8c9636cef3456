import java.io.IOException;
import java.lang.reflect.Field;
import java.lang.reflect.Method;
import java.lang.reflect.Modifier;
import java.nio.file.Files;
import java.nio.file.Path;
import java.util.ArrayList;
import java.util.List;
import java.util.Set;
import java.util.regex.Matcher;
import java.util.regex.Pattern;

/** The rules of LANGUAGE.md that can be seen in the text of the class or by reflection. */
public final class LanguageTest {
    private static final Path SOURCE = Path.of("src/main/java/UnitRows.java");

    /** What rule 6 lists, and the two that the document names as the machine's own. */
    private static final Set<String> THROWN = Set.of("IllegalStateException", "IllegalArgumentException",
            "IndexOutOfBoundsException", "ArithmeticException", "UnsupportedOperationException",
            "NoSuchElementException", "RuntimeException", "NegativeArraySizeException",
            "ArrayIndexOutOfBoundsException");

    private static final Due due = new Due();

    public static void main(String[] args) throws IOException {
        String text = Files.readString(SOURCE);
        String code = withoutTextsAndComments(text);
        absent(code, "the file has no package line", "\\bpackage\\b");
        absent(code, "rule 2: no lambda or method reference", "->|::");
        absent(code, "rule 4: no library but what it lists",
                "\\bimport\\s+(?!java\\.util\\.(ArrayList|List|Arrays|Iterator|NoSuchElementException);)");
        absent(code, "rule 5: no static initialiser", "\\bstatic\\s*\\{");
        absent(code, "rule 6: no finally, synchronized, assert", "\\b(finally|synchronized|assert)\\b");
        absent(code, "no catch of what the machine throws", "\\bcatch\\s*\\([^)]*\\b(ArrayIndexOutOfBoundsException"
                + "|IndexOutOfBoundsException|NullPointerException|ArithmeticException|ClassCastException"
                + "|NegativeArraySizeException|ArrayStoreException|RuntimeException|Exception|Throwable)\\b");
        absent(code, "rule 9: each loop has an end", "\\bwhile\\s*\\(\\s*true\\s*\\)|\\bfor\\s*\\([^;)]*;\\s*;");
        absent(code, "rule 13: no clock, randomness, file, thread",
                "\\b(System\\.(?!arraycopy)|(Thread|Random|Runtime)\\b)");
        thrown(code);
        methodsAreShort(code);
        due.is("rule 3: characters above 255", text.chars().filter(c -> c > 255).count(), 0);
        List<Class<?>> classes = new ArrayList<>(List.of(UnitRows.class.getDeclaredClasses()));
        classes.add(UnitRows.class);
        due.is("rule 11: more than twelve classes", Math.max(12, classes.size()), 12);
        for (Class<?> each : classes) {
            fields(each);
            parameters(each);
        }
        due.end();
    }

    private static String withoutTextsAndComments(String text) {
        return text.replaceAll("\"[^\"\\n]*\"", "\"\"").replaceAll("(?s)/\\*.*?\\*/", "").replaceAll("//[^\\n]*", "");
    }

    private static void absent(String code, String what, String pattern) {
        Matcher found = Pattern.compile(pattern).matcher(code);
        due.same(what, found.find() ? found.group() : "nothing", "nothing");
    }

    private static void thrown(String code) {
        Matcher each = Pattern.compile("\\bthrow\\s+(new\\s+(\\w+)\\(\"?\"?\\);)?").matcher(code);
        while (each.find()) {
            String name = String.valueOf(each.group(2));
            due.same("rule 6: thrown", THROWN.contains(name) ? "listed" : name, "listed");
        }
    }

    /** A method's braces are told by their indentation: one step in the class, two in a class inside. */
    private static void methodsAreShort(String code) {
        Matcher each = Pattern.compile("(?ms)^(    |        )\\w[^;={]*\\([^;{]*\\{$.*?^\\1\\}$").matcher(code);
        int methods = 0;
        while (each.find()) {
            methods++;
            due.is("rule 11: more than sixty lines", Math.max(60, each.group().lines().count()), 60);
        }
        due.is("methods seen, at least", Math.min(methods, 40), 40);
    }

    private static void fields(Class<?> each) {
        int ofObjects = 0;
        for (Field field : each.getDeclaredFields()) {
            if (!Modifier.isStatic(field.getModifiers())) {
                ofObjects++;
            } else {
                due.is("rule 5: " + field.getName() + " is final", field.getModifiers() & Modifier.FINAL, Modifier.FINAL);
            }
        }
        due.is("rule 11: more than twenty fields in " + each.getName(), Math.max(20, ofObjects), 20);
        int open = each == UnitRows.class ? 0 : each.getModifiers() & (Modifier.PUBLIC | Modifier.PROTECTED);
        due.is("rule 1: " + each.getName() + " is open to others", open, 0);
    }

    private static void parameters(Class<?> each) {
        for (Method method : each.getDeclaredMethods()) {
            due.is("rule 11: " + method.getName() + " takes more than seven",
                    Math.max(7, method.getParameterCount()), 7);
        }
    }
}
