import java.lang.reflect.Constructor;
import java.lang.reflect.Executable;
import java.lang.reflect.Field;
import java.lang.reflect.Method;
import java.lang.reflect.Modifier;
import java.util.Set;
import java.util.TreeSet;
import java.util.stream.Collectors;
import java.util.stream.Stream;

/** The public face: the document's constant, constructor and methods with their exceptions, and no others. */
public final class FaceTest {
    private static final String FACE = "The public face";

    /** The document's own lines. */
    private static final String[] LINES = {
        "public static final int NONE = -1;",
        "public JoinHouse();",
        "public void table(int table, int indexes) throws IllegalArgumentException;",
        "public int row(int table, int a, int b, int c, int d)"
                + " throws IllegalArgumentException, UnsupportedOperationException;",
        "public void clear();",
        "public int generator(int table) throws IllegalArgumentException, UnsupportedOperationException;",
        "public int equal(int generator, int column, int other, int otherColumn)"
                + " throws IllegalArgumentException, UnsupportedOperationException;",
        "public int number(int generator, int column, int v)"
                + " throws IllegalArgumentException, UnsupportedOperationException;",
        "public int less(int generator, int column, int other, int otherColumn)"
                + " throws IllegalArgumentException, UnsupportedOperationException;",
        "public int plan(int place) throws NoSuchElementException;",
        "public int method(int place) throws NoSuchElementException;",
        "public int size(int place) throws NoSuchElementException;",
        "public int run() throws UnsupportedOperationException;",
        "public int looks();",
        "public int way(int way, int generator) throws NoSuchElementException;",
    };

    private FaceTest() {
    }

    public static void main(String[] args) throws ReflectiveOperationException {
        theClass();
        members();
        Due.aboutNoSentence();
        Document.isAllNamed(FACE);
        Due.end();
    }

    private static void theClass() {
        Due.about(FACE, "import java.util.NoSuchElementException;");
        Due.same("package", JoinHouse.class.getPackageName(), "");
        Due.about(FACE, "public final class JoinHouse {");
        Due.same("class", Modifier.toString(JoinHouse.class.getModifiers()) + " " + JoinHouse.class.getName(),
                "public final JoinHouse");
        Due.same("above it", JoinHouse.class.getSuperclass().getName(), "java.lang.Object");
        Due.is("interfaces", () -> JoinHouse.class.getInterfaces().length, 0);
        Due.is("public classes in it", () -> JoinHouse.class.getClasses().length, 0);
    }

    private static void members() throws ReflectiveOperationException {
        Set<String> got = new TreeSet<>();
        for (Method method : JoinHouse.class.getDeclaredMethods()) {
            add(got, method.getModifiers(), method.getReturnType() + " " + method.getName() + called(method));
        }
        for (Constructor<?> constructor : JoinHouse.class.getDeclaredConstructors()) {
            add(got, constructor.getModifiers(), constructor.getName() + called(constructor));
        }
        for (Field field : JoinHouse.class.getDeclaredFields()) {
            if (!Modifier.isPrivate(field.getModifiers())) {
                add(got, field.getModifiers(), field.getType() + " " + field.getName() + " = " + field.get(null) + ";");
            }
        }
        for (String line : LINES) {
            Due.about(FACE, line);
            Due.same("the class has it", got.remove(withoutNames(line)) + "", "true");
        }
        Due.aboutNoSentence();
        Due.same("what the face does not have", got.toString(), "[]");
    }

    private static void add(Set<String> got, int modifiers, String told) {
        if (!Modifier.isPrivate(modifiers)) {
            got.add(Modifier.toString(modifiers) + " " + told);
        }
    }

    private static String called(Executable call) {
        String thrown = names(call.getExceptionTypes());
        return "(" + names(call.getParameterTypes()) + ")" + (thrown.isEmpty() ? ";" : " throws " + thrown + ";");
    }

    private static String names(Class<?>[] types) {
        return Stream.of(types).map(Class::getSimpleName).collect(Collectors.joining(", "));
    }

    /** The class file does not tell what the parameters are called. */
    private static String withoutNames(String line) {
        int open = line.indexOf('(');
        int close = line.indexOf(')');
        if (open < 0) {
            return line;
        }
        return line.substring(0, open) + line.substring(open, close).replaceAll("int \\w+", "int") + line.substring(close);
    }
}
