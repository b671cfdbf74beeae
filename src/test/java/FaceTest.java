import java.lang.reflect.Constructor;
import java.lang.reflect.Field;
import java.lang.reflect.Method;
import java.lang.reflect.Modifier;
import java.util.Set;
import java.util.TreeSet;

/** The public face: the document's constant, constructor and methods with their exceptions, and no others. */
public final class FaceTest {
    public static void main(String[] args) {
        Set<String> got = new TreeSet<>();
        for (Method method : JoinHouse.class.getDeclaredMethods()) {
            if (!Modifier.isPrivate(method.getModifiers())) {
                got.add(told(method));
            }
        }
        Set<String> want = new TreeSet<>(Set.of(
                "public void table(2) IllegalArgumentException",
                "public int row(5) IllegalArgumentException UnsupportedOperationException",
                "public void clear(0)",
                "public int generator(1) IllegalArgumentException UnsupportedOperationException",
                "public int equal(4) IllegalArgumentException UnsupportedOperationException",
                "public int number(3) IllegalArgumentException UnsupportedOperationException",
                "public int less(4) IllegalArgumentException UnsupportedOperationException",
                "public int plan(1) NoSuchElementException",
                "public int method(1) NoSuchElementException",
                "public int size(1) NoSuchElementException",
                "public int run(0) UnsupportedOperationException",
                "public int looks(0)",
                "public int way(2) NoSuchElementException"));
        Due.same("methods", got.toString(), want.toString());

        StringBuilder fields = new StringBuilder();
        for (Field field : JoinHouse.class.getDeclaredFields()) {
            if (!Modifier.isPrivate(field.getModifiers())) {
                fields.append(Modifier.toString(field.getModifiers())).append(' ');
                fields.append(field.getType()).append(' ').append(field.getName());
            }
        }
        Due.same("fields", fields.toString(), "public static final int NONE");
        Due.is("NONE", () -> JoinHouse.NONE, -1);

        Constructor<?>[] constructors = JoinHouse.class.getDeclaredConstructors();
        Due.is("constructors", () -> constructors.length, 1);
        Due.same("constructor", constructors[0].toString(), "public JoinHouse()");
        Due.same("class", Modifier.toString(JoinHouse.class.getModifiers()), "public final");
        Due.end();
    }

    private static String told(Method method) {
        StringBuilder text = new StringBuilder(Modifier.toString(method.getModifiers()));
        text.append(' ').append(method.getReturnType()).append(' ').append(method.getName());
        text.append('(').append(method.getParameterCount()).append(')');
        Set<String> thrown = new TreeSet<>();
        for (Class<?> type : method.getExceptionTypes()) {
            thrown.add(type.getSimpleName());
        }
        for (String name : thrown) {
            text.append(' ').append(name);
        }
        return text.toString();
    }
}
