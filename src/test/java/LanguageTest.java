import java.io.IOException;
import java.lang.reflect.Field;
import java.lang.reflect.Method;
import java.lang.reflect.Modifier;
import java.nio.file.Files;
import java.nio.file.Path;
import java.util.ArrayList;
import java.util.List;
import java.util.Random;
import java.util.Set;
import java.util.TreeSet;
import java.util.regex.Matcher;
import java.util.regex.Pattern;
import java.util.stream.Stream;

/** What of ../shared/LANGUAGE.md can be seen from outside: the file's words, the class files, and odd calls. */
public final class LanguageTest {
    private static final Path SOURCES = Path.of("src", "main", "java");
    private static final Set<String> IMPORTS = Set.of("java.util.Arrays", "java.util.NoSuchElementException");
    private static final Set<String> LIBRARY = Set.of("Math.max", "Arrays.fill", "Integer.bitCount");
    private static final Set<String> THROWN =
            Set.of("IllegalArgumentException", "UnsupportedOperationException", "NoSuchElementException");
    private static final Set<String> LEFT_OUT = Set.of("try", "catch", "finally", "synchronized", "assert", "native",
            "volatile", "transient", "package", "protected", "Object", "System", "Thread", "Random", "var");

    private LanguageTest() {
    }

    public static void main(String[] args) throws IOException {
        String source = oneFile();
        String code = source.replaceAll("(?s)/\\*.*?\\*/|//[^\n]*", "").replaceAll("\"[^\"\n]*\"", "\"\"");
        faceAndClasses();
        fieldsAndMethods();
        words(code);
        library(code);
        exceptions(code);
        lengths(code);
        noCallThrowsByItself();
        Due.end();
    }

    private static String oneFile() throws IOException {
        try (Stream<Path> files = Files.walk(SOURCES)) {
            Due.same("files", files.filter(Files::isRegularFile).toList().toString(),
                    List.of(SOURCES.resolve("JoinHouse.java")).toString());
        }
        return Files.readString(SOURCES.resolve("JoinHouse.java"));
    }

    private static List<Class<?>> classes() {
        List<Class<?>> classes = new ArrayList<>(List.of(JoinHouse.class.getDeclaredClasses()));
        classes.add(0, JoinHouse.class);
        return classes;
    }

    private static void faceAndClasses() {
        for (Class<?> inside : JoinHouse.class.getDeclaredClasses()) {
            int modifiers = inside.getModifiers();
            yes("rule 1: static and not public: " + inside,
                    Modifier.isStatic(modifiers) && !Modifier.isPublic(modifiers) && !Modifier.isProtected(modifiers));
        }
        yes("rule 11: at most twelve classes", classes().size() <= 12);
        Set<String> open = new TreeSet<>();
        for (Method method : JoinHouse.class.getDeclaredMethods()) {
            if (Modifier.isPublic(method.getModifiers())) {
                open.add(method.getName());
            }
        }
        for (Method method : JoinHouse.class.getDeclaredMethods()) {
            boolean isPublic = Modifier.isPublic(method.getModifiers());
            yes("rule 1: private and of another name: " + method,
                    isPublic || Modifier.isPrivate(method.getModifiers()) && !open.contains(method.getName()));
        }
    }

    private static void fieldsAndMethods() {
        for (Class<?> one : classes()) {
            int fields = 0;
            for (Field field : one.getDeclaredFields()) {
                boolean isStatic = Modifier.isStatic(field.getModifiers());
                fields += isStatic ? 0 : 1;
                yes("rule 5: final and an int: " + field,
                        !isStatic || Modifier.isFinal(field.getModifiers()) && field.getType() == int.class);
                yes("rule 3: of a type that is left: " + field, field.getType() == int.class
                        || field.getType() == int[].class || classes().contains(field.getType()));
            }
            yes("rule 11: at most twenty fields: " + one, fields <= 20);
            for (Method method : one.getDeclaredMethods()) {
                yes("rule 11: at most seven parameters: " + method, method.getParameterCount() <= 7);
                yes("rule 2: no lambda: " + method, !method.isSynthetic());
                yes("rule 6: no equals, hashCode, toString: " + method,
                        !Set.of("equals", "hashCode", "toString").contains(method.getName()));
            }
        }
    }

    private static void words(String code) {
        Matcher word = Pattern.compile("[A-Za-z]\\w*").matcher(code);
        while (word.find()) {
            yes("not left by the rules: " + word.group(), !LEFT_OUT.contains(word.group()));
        }
        yes("rule 2: no lambda, no method reference", !code.contains("->") && !code.contains("::"));
        yes("rule 5: no static block", !Pattern.compile("static\\s*\\{").matcher(code).find());
    }

    private static void library(String code) {
        Matcher imported = Pattern.compile("import ([\\w.*]+);").matcher(code);
        while (imported.find()) {
            yes("import of " + imported.group(1), IMPORTS.contains(imported.group(1)));
        }
        Matcher called = Pattern.compile("\\b[A-Z]\\w*[a-z]\\w*\\.\\w+").matcher(code.replaceAll("import [^\n]*", ""));
        while (called.find()) {
            yes("rule 4: " + called.group(), LIBRARY.contains(called.group()));
        }
    }

    private static void exceptions(String code) {
        Matcher thrown = Pattern.compile("throw\\b([^;]*);").matcher(code);
        int found = 0;
        while (thrown.find()) {
            found++;
            Matcher form = Pattern.compile(" new (\\w+)\\(\"\"\\)").matcher(thrown.group(1));
            yes("rule 6: throw" + thrown.group(1), form.matches() && THROWN.contains(form.group(1)));
        }
        yes("rule 6: there are throws", found > 0);
    }

    /** A method's lines are those from one that ends in "{" four or eight blanks in to the "}" below it. */
    private static void lengths(String code) {
        Matcher method = Pattern.compile("(?ms)^( {4}| {8})(?! |\\}|if|for|while)[^\n;=]*\\([^;{]*\\{\n(.*?)^\\1\\}")
                .matcher(code);
        int found = 0;
        while (method.find()) {
            found++;
            yes("rule 11: some sixty lines: " + method.group().lines().findFirst().orElse(""),
                    method.group().lines().count() <= 60);
        }
        yes("rule 11: there are methods", found >= 40);
    }

    /** For any arguments in any state, after the 512th call too, where the answers are free. */
    private static void noCallThrowsByItself() {
        for (int seed = 0; seed < 60; seed++) {
            Random random = new Random(seed);
            JoinHouse house = new JoinHouse();
            Set<String> thrown = new TreeSet<>();
            for (int call = 0; call < 3000; call++) {
                String got = oddCall(house, random, seed);
                if (got.contains("throws.")) {
                    thrown.add(got);
                }
            }
            thrown.removeAll(ALLOWED);
            Due.same("rule 7: what no call may throw, seed " + seed, thrown.toString(), "[]");
        }
    }

    private static final Set<String> ALLOWED = Set.of("table throws.IllegalArgumentException",
            "row throws.IllegalArgumentException", "row throws.UnsupportedOperationException",
            "generator throws.IllegalArgumentException", "generator throws.UnsupportedOperationException",
            "equal throws.IllegalArgumentException", "equal throws.UnsupportedOperationException",
            "number throws.IllegalArgumentException", "number throws.UnsupportedOperationException",
            "less throws.IllegalArgumentException", "less throws.UnsupportedOperationException",
            "plan throws.NoSuchElementException", "method throws.NoSuchElementException",
            "size throws.NoSuchElementException", "run throws.UnsupportedOperationException",
            "way throws.NoSuchElementException");

    private static String oddCall(JoinHouse house, Random random, int seed) {
        int wild = 2 + seed % 30;
        int a = odd(random, wild, 6);
        int b = odd(random, wild, 4);
        int c = odd(random, wild, 6);
        int d = odd(random, wild, 4);
        return switch (random.nextInt(seed % 3 == 0 ? 24 : 60)) {
            case 0 -> "table " + Due.answerOf(Due.of(() -> house.table(a, b)));
            case 1 -> "clear " + Due.answerOf(Due.of(house::clear));
            case 2, 3, 4 -> "generator " + Due.answerOf(() -> house.generator(a));
            case 5 -> "equal " + Due.answerOf(() -> house.equal(a, b, c, d));
            case 6 -> "number " + Due.answerOf(() -> house.number(a, b, c));
            case 7 -> "less " + Due.answerOf(() -> house.less(a, b, c, d));
            case 8 -> "plan " + Due.answerOf(() -> house.plan(a));
            case 9 -> "method " + Due.answerOf(() -> house.method(a));
            case 10 -> "size " + Due.answerOf(() -> house.size(a));
            case 11, 12 -> "run " + Due.answerOf(house::run);
            case 13 -> "looks " + Due.answerOf(house::looks);
            case 14 -> "way " + Due.answerOf(() -> house.way(c, a));
            default -> "row " + Due.answerOf(() -> house.row(a, b, c, d, b));
        };
    }

    private static int odd(Random random, int wild, int bound) {
        return random.nextInt(wild) == 0 ? random.nextInt() >> random.nextInt(32) : random.nextInt(bound);
    }

    private static void yes(String what, boolean is) {
        Due.same(what, is ? "so" : "not so", "so");
    }
}
