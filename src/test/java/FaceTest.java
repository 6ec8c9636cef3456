import java.lang.reflect.Constructor;
import java.lang.reflect.Field;
import java.lang.reflect.Method;
import java.lang.reflect.Modifier;
import java.util.ArrayList;
import java.util.List;
import java.util.Set;
import java.util.TreeSet;

/** The public face of the document, and rule 1 of LANGUAGE.md. */
public final class FaceTest {
    private static final String NO_SUCH = "NoSuchElementException";
    private static final String ARGUMENT = "IllegalArgumentException";
    private static final String STATE = "IllegalStateException";
    private static final String NO_ROOM = "UnsupportedOperationException";
    private static final String INDEX = "ArrayIndexOutOfBoundsException";
    private static final String NEGATIVE = "NegativeArraySizeException";

    private static final Due due = new Due();
    private static final Set<String> face = new TreeSet<>();

    public static void main(String[] args) {
        writeFace();
        Set<String> found = new TreeSet<>();
        Set<String> publicNames = new TreeSet<>();
        Set<String> privateNames = new TreeSet<>();
        for (Method method : UnitRows.class.getDeclaredMethods()) {
            if (Modifier.isPrivate(method.getModifiers())) {
                privateNames.add(method.getName());
            } else {
                found.add(told(method));
                publicNames.add(method.getName());
            }
        }
        same("methods that are not private", found, face);
        privateNames.retainAll(publicNames);
        same("private methods with a public one's name", privateNames, new TreeSet<>());
        due.is("public and final", UnitRows.class.getModifiers(), Modifier.PUBLIC | Modifier.FINAL);
        constructors();
        for (Field field : UnitRows.class.getDeclaredFields()) {
            due.is("private field " + field.getName(), field.getModifiers() & Modifier.PRIVATE, Modifier.PRIVATE);
        }
        due.end();
    }

    private static void writeFace() {
        add("void rows(int)", NEGATIVE, ARGUMENT);
        add("void place(int, int)", ARGUMENT, STATE);
        add("void good(int, int)", ARGUMENT);
        add("int lot(int, int)", ARGUMENT, NO_ROOM);
        add("int unit(int, int, int, int)", NO_SUCH, ARGUMENT, NO_ROOM);
        add("void move(int, int)", NO_SUCH, ARGUMENT, STATE, NO_ROOM);
        add("void into(int, int)", NO_SUCH, STATE, NO_ROOM);
        add("void out(int)", NO_SUCH, STATE, NO_ROOM);
        add("int split(int, int)", NO_SUCH, ARGUMENT, STATE, NO_ROOM);
        add("void join(int, int)", NO_SUCH, STATE, NO_ROOM);
        add("void state(int, int)", NO_SUCH, ARGUMENT, STATE, NO_ROOM);
        add("void serial(int, long)", NO_SUCH, ARGUMENT, STATE, NO_ROOM);
        add("void lost(int, int)", NO_SUCH, ARGUMENT, STATE, NO_ROOM);
        add("void found(int, int)", NO_SUCH, ARGUMENT, STATE, NO_ROOM);
        add("int weigh(int, int)", NO_SUCH, ARGUMENT, STATE, NO_ROOM);
        add("int day(int)", ARGUMENT);
        add("int at(int, int)", ARGUMENT, INDEX);
        add("int find(int, int, int, int)", ARGUMENT);
        add("long sum(int, int)", ARGUMENT);
        add("int row(int, int, int)", NO_SUCH, ARGUMENT);
        add("int told(int, int)", NO_SUCH, ARGUMENT);
        add("long packed(int)", NO_SUCH);
        add("int count(int)");
    }

    private static void add(String method, String... thrown) {
        face.add("public " + method + " throws " + List.of(thrown));
    }

    private static String told(Method method) {
        return Modifier.toString(method.getModifiers()) + " " + method.getReturnType().getSimpleName() + " "
                + method.getName() + "(" + String.join(", ", names(method.getParameterTypes())) + ") throws "
                + names(method.getExceptionTypes());
    }

    private static List<String> names(Class<?>[] classes) {
        List<String> names = new ArrayList<>();
        for (Class<?> each : classes) {
            names.add(each.getSimpleName());
        }
        return names;
    }

    private static void constructors() {
        Constructor<?>[] constructors = UnitRows.class.getDeclaredConstructors();
        due.is("constructors", constructors.length, 1);
        due.is("public", constructors[0].getModifiers(), Modifier.PUBLIC);
        due.is("its parameters", constructors[0].getParameterCount(), 0);
    }

    private static void same(String what, Set<String> got, Set<String> want) {
        due.is(what, got.size(), want.size());
        if (!got.equals(want)) {
            due.tell(what + " are " + got + ", due are " + want);
        }
    }
}
