import java.io.IOException;
import java.nio.file.Files;
import java.nio.file.Path;
import java.util.HashMap;
import java.util.Map;

/** The document's own words: a test names the sentence that it is of, and no sentence may be left without one. */
final class Document {
    private static final Path PATH = Path.of("..", "shared", "DOC.md");
    private static final Map<String, String> TEXTS = new HashMap<>();
    private static final Map<String, boolean[]> NAMED = new HashMap<>();
    private static boolean isRead = false;
    private static int sentences = 0;

    private Document() {
    }

    /** Where is "Term 1" or the like, or a heading up to its colon. */
    static void name(String where, String words) {
        sentences++;
        read();
        if (TEXTS.isEmpty()) {
            return;
        }
        String text = TEXTS.getOrDefault(section(where), "");
        int at = text.indexOf(words);
        Due.same(where + " says", at < 0 ? "nothing of: " + words : words, words);
        while (at >= 0) {
            boolean[] named = NAMED.get(section(where));
            for (int i = at; i < at + words.length(); i++) {
                named[i] = true;
            }
            at = text.indexOf(words, at + 1);
        }
    }

    static void isAllNamed(String section) {
        read();
        if (!TEXTS.isEmpty()) {
            Due.same("what no test names of " + section, leftOver(section), "");
        }
    }

    static int sentences() {
        return sentences;
    }

    private static String section(String where) {
        return where.startsWith("Term ") ? "Terms" : where;
    }

    /** The stretches with a letter in them that no test has named. */
    private static String leftOver(String section) {
        String text = TEXTS.getOrDefault(section, "no such section");
        boolean[] named = NAMED.getOrDefault(section, new boolean[text.length()]);
        StringBuilder left = new StringBuilder();
        StringBuilder stretch = new StringBuilder();
        for (int i = 0; i <= text.length(); i++) {
            if (i < text.length() && !named[i]) {
                stretch.append(text.charAt(i));
            } else {
                if (stretch.chars().anyMatch(Character::isLetter)) {
                    left.append('[').append(stretch).append(']');
                }
                stretch.setLength(0);
            }
        }
        return left.toString();
    }

    private static void read() {
        if (isRead) {
            return;
        }
        isRead = true;
        if (!Files.isReadable(PATH)) {
            System.out.println("there is no " + PATH + ": what the tests quote is not looked up");
            return;
        }
        try {
            String section = "";
            for (String line : Files.readAllLines(PATH)) {
                if (line.startsWith("## ")) {
                    section = line.substring(3).split(":")[0];
                } else if (!line.startsWith("```")) {
                    TEXTS.merge(section, line, (before, more) -> before + " " + more);
                }
            }
        } catch (IOException e) {
            throw new IllegalStateException(e);
        }
        TEXTS.replaceAll((section, text) -> plain(section, text));
        TEXTS.forEach((section, text) -> NAMED.put(section, new boolean[text.length()]));
    }

    /** In one line, and a promise without the call's own line ahead of it. */
    private static String plain(String section, String text) {
        String line = text.replaceAll("\\s+", " ").trim();
        int told = line.indexOf("`: ");
        return section.startsWith("Promise ") && told >= 0 ? line.substring(told + 3) : line;
    }
}
