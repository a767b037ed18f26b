import java.io.IOException;
import java.nio.file.Files;
import java.nio.file.Path;
import java.util.ArrayList;
import java.util.List;
import java.util.regex.Matcher;
import java.util.regex.Pattern;

/**
 * Ties tests to the document's words: a test names the words that it holds the class to. It fails if the document does
 * not have them, if nothing is looked at for them, or if words of a section are left that no test names.
 */
final class Edge {
    private static final String DOCUMENT = document();
    private static final List<String> wrongs = new ArrayList<>();

    private static String section = "";
    private static String text = "";
    private static boolean[] named = new boolean[0];
    private static String words = "";
    private static int looked;

    private Edge() {
    }

    private static String document() {
        try {
            return Files.readString(Path.of(System.getProperty("project", "."), "../shared/DOC.md"));
        } catch (IOException e) {
            throw new IllegalStateException("../shared/DOC.md can't be read", e);
        }
    }

    /** The terms: all up to the paragraphs on how the interface is ordered, without the signs between its parts. */
    static void terms() {
        String all = find("## Terms\\n(.*?)\\nAhead of the calls");
        begin("Terms", all.replace("```text", " ").replace("```", " ").replaceAll("==== \\d\\.", " "));
    }

    /** How long an object is used. */
    static void use() {
        begin("What it is", find("\\n(An object is used [^\\n]*)\\n"));
    }

    static void promise(int n) {
        begin("promise " + n, find("## Promise " + n + ": \\w[^\\n]*\\n+`[^`]*`: (.*?)\\n## "));
    }

    private static String find(String pattern) {
        Matcher found = Pattern.compile(pattern, Pattern.DOTALL).matcher(DOCUMENT);
        if (!found.find()) {
            throw new IllegalStateException("the document has no " + pattern);
        }
        return found.group(1);
    }

    private static void begin(String name, String all) {
        endSection();
        section = name;
        text = all.replaceAll("\\s+", " ").trim();
        named = new boolean[text.length()];
    }

    /** The words that the following answers are due by. */
    static void says(String sentence) {
        endWords();
        words = sentence;
        int at = text.indexOf(sentence);
        while (at >= 0 && isNamed(at, sentence.length()) && text.indexOf(sentence, at + 1) >= 0) {
            at = text.indexOf(sentence, at + 1);
        }
        if (at < 0) {
            wrongs.add(section + " doesn't say: " + sentence);
            return;
        }
        for (int i = 0; i < sentence.length(); i++) {
            named[at + i] = true;
        }
    }

    private static boolean isNamed(int from, int n) {
        for (int i = from; i < from + n; i++) {
            if (!named[i]) {
                return false;
            }
        }
        return true;
    }

    static void due(String what, long got, long want) {
        looked++;
        Check.due(section + ", \"" + words + "\": " + what, got, want);
    }

    static void due(String what, String got, String want) {
        looked++;
        Check.due(section + ", \"" + words + "\": " + what, got, want);
    }

    private static void endWords() {
        if (!words.isEmpty() && looked == 0) {
            wrongs.add(section + ": nothing is looked at for: " + words);
        }
        words = "";
        looked = 0;
    }

    private static void endSection() {
        endWords();
        StringBuilder left = new StringBuilder();
        for (int i = 0; i < named.length; i++) {
            left.append(named[i] ? '\n' : text.charAt(i));
        }
        for (String part : left.toString().split("\n+")) {
            if (part.chars().anyMatch(Character::isLetterOrDigit)) {
                wrongs.add(section + ": no test names: " + part);
            }
        }
    }

    static void end() {
        endSection();
        wrongs.forEach(System.out::println);
        Check.end();
        if (!wrongs.isEmpty()) {
            System.exit(1);
        }
    }
}
