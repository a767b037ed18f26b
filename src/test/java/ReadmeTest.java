import java.lang.reflect.Method;
import java.lang.reflect.Modifier;
import java.nio.file.Files;
import java.nio.file.Path;
import java.util.HashMap;
import java.util.Map;
import java.util.Set;
import java.util.TreeSet;
import java.util.regex.Matcher;
import java.util.regex.Pattern;
import java.util.stream.Stream;

/** README.md: each call that it shows answers what it shows, every call is shown, and it names every test. */
public final class ReadmeTest {
    private static final Pattern BLOCK = Pattern.compile("```java\\n(.*?)```", Pattern.DOTALL);
    private static final Pattern SHOWN = Pattern.compile("drive\\.(\\w+)\\(([^)]*)\\);\\s*// (-?\\d+)(:.*)?");
    private static final String FRESH = "KeyDrive drive = new KeyDrive();";

    private static final Map<String, Method> face = new HashMap<>();
    private static final Set<String> unshown = new TreeSet<>();

    public static void main(String[] args) throws Exception {
        Path project = Path.of(System.getProperty("project", "."));
        String page = Files.readString(project.resolve("README.md"));
        readFace();
        Matcher block = BLOCK.matcher(page);
        while (block.find()) {
            follow(block.group(1));
        }
        Check.due("calls that README.md doesn't show", unshown.toString(), "[]");
        namesTests(page, project);
        Check.end();
    }

    private static void readFace() {
        for (Method m : KeyDrive.class.getDeclaredMethods()) {
            if (Modifier.isPublic(m.getModifiers())) {
                face.put(m.getName(), m);
                unshown.add(m.getName());
            }
        }
    }

    /** Every line of a piece must be a new object, or a call with its answer: nothing there goes unlooked at. */
    private static void follow(String piece) throws Exception {
        KeyDrive drive = null;
        for (String line : piece.split("\n")) {
            Matcher shown = SHOWN.matcher(line);
            if (line.equals(FRESH)) {
                drive = new KeyDrive();
            } else if (drive != null && shown.matches()) {
                Check.due("README.md: " + line, call(drive, shown), Long.parseLong(shown.group(3)));
                unshown.remove(shown.group(1));
            } else {
                Check.due("README.md", line, "a call with its answer");
            }
        }
    }

    private static long call(KeyDrive drive, Matcher shown) throws Exception {
        Method method = face.get(shown.group(1));
        if (method == null) {
            throw new IllegalStateException("README.md shows a call that there is not: " + shown.group());
        }
        String told = shown.group(2).trim();
        String[] texts = told.isEmpty() ? new String[0] : told.split(",\\s*");
        Object[] numbers = new Object[texts.length];
        for (int i = 0; i < texts.length; i++) {
            numbers[i] = texts[i].equals("KeyDrive.NONE") ? KeyDrive.NONE : Long.decode(texts[i]).intValue();
        }
        return ((Number) method.invoke(drive, numbers)).longValue();
    }

    private static void namesTests(String page, Path project) throws Exception {
        try (Stream<Path> files = Files.list(project.resolve("src/test/java"))) {
            for (Path file : files.toList()) {
                String name = file.getFileName().toString().replace(".java", "");
                Check.due("README.md names " + name, page.contains("`" + name) ? 1 : 0, 1);
            }
        }
    }
}
