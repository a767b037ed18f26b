import com.sun.source.tree.ClassTree;
import com.sun.source.tree.CompilationUnitTree;
import com.sun.source.tree.MethodInvocationTree;
import com.sun.source.tree.MethodTree;
import com.sun.source.tree.NewClassTree;
import com.sun.source.util.JavacTask;
import com.sun.source.util.TreePathScanner;
import com.sun.source.util.Trees;
import java.lang.reflect.Constructor;
import java.lang.reflect.Field;
import java.lang.reflect.Method;
import java.lang.reflect.Modifier;
import java.nio.file.Files;
import java.nio.file.Path;
import java.util.ArrayList;
import java.util.HashMap;
import java.util.HashSet;
import java.util.List;
import java.util.Map;
import java.util.Set;
import java.util.regex.Matcher;
import java.util.regex.Pattern;
import javax.lang.model.element.Element;
import javax.tools.JavaCompiler;
import javax.tools.StandardJavaFileManager;
import javax.tools.ToolProvider;

/** What of LANGUAGE.md can be seen in the source and in the class; each row tells the rule's number. */
public final class LanguageTest {
    private static final int DEEPEST = 8;
    private static final int LONGEST = 60;
    private static final int PARAMETERS = 7;
    private static final int CLASSES = 12;
    private static final int FIELDS = 20;

    private static int wrong;

    public static void main(String[] args) throws Exception {
        Path project = Path.of(System.getProperty("project", "."));
        Path file = project.resolve("src/main/java/KeyDrive.java");
        String source = Files.readString(file);
        face(source, Files.readString(project.resolve("../shared/DOC.md")));
        words(source);
        List<Class<?>> classes = new ArrayList<>(List.of(KeyDrive.class));
        classes.addAll(List.of(KeyDrive.class.getDeclaredClasses()));
        holds(11, classes.size() <= CLASSES, "classes: " + classes.size());
        for (Class<?> c : classes) {
            members(c);
        }
        methods(file);
        if (wrong > 0) {
            System.exit(1);
        }
    }

    private static void holds(int rule, boolean so, String what) {
        if (!so) {
            wrong++;
            System.out.println("rule " + rule + ": " + what);
        }
    }

    /** Every line of the document's face stands in the source, and nothing else there is public. */
    private static void face(String source, String document) {
        Matcher block = Pattern.compile("```java\\n(.*?)```", Pattern.DOTALL).matcher(document);
        holds(1, block.find(), "the document has no face");
        int lines = 0;
        for (String line : block.group(1).split("\n")) {
            String member = line.trim();
            if (member.startsWith("public")) {
                lines++;
                String head = member.endsWith(");") ? member.substring(0, member.length() - 1) + " {" : member;
                holds(1, source.contains(head), "missing: " + head);
            }
        }
        Matcher shown = Pattern.compile("\\b(public|protected)\\b").matcher(source);
        int found = 0;
        while (shown.find()) {
            found++;
        }
        holds(1, found == lines, found + " members are public, the face has " + lines);
    }

    private static void words(String source) {
        holds(4, source.chars().allMatch(c -> c == '\n' || c >= 32 && c < 127), "signs beyond 127");
        String code = source.replaceAll("(?s)/\\*.*?\\*/", " ").replaceAll("//[^\n]*", " ");
        String[] words = {"throw", "throws", "try", "catch", "finally", "synchronized", "assert", "import", "package",
            "hashCode", "toString", "equals", "lambda", "var", "volatile", "native", "Object", "instanceof"};
        for (String word : words) {
            holds(6, !Pattern.compile("\\b" + word + "\\b").matcher(code).find(), "the word " + word);
        }
        for (String sign : new String[] {"->", "::", "Exact(", "\"", "while (true)", "for (;;)"}) {
            holds(2, !code.contains(sign), "the sign " + sign);
        }
        Matcher library = Pattern.compile("\\b(Math|System|Long|Integer|Arrays)\\.(\\w+)").matcher(code);
        Set<String> allowed = Set.of("Math.max", "Math.min", "System.arraycopy");
        while (library.find()) {
            holds(4, allowed.contains(library.group()), "the library's " + library.group());
        }
    }

    private static void members(Class<?> c) {
        boolean nested = c != KeyDrive.class;
        int kind = c.getModifiers();
        holds(1, Modifier.isFinal(kind) && (nested ? Modifier.isPrivate(kind) && Modifier.isStatic(kind)
                : Modifier.isPublic(kind)), "how " + c.getName() + " is declared");
        int fields = 0;
        for (Field f : c.getDeclaredFields()) {
            boolean constant = Modifier.isStatic(f.getModifiers());
            fields += constant ? 0 : 1;
            boolean number = f.getType() == int.class || f.getType() == long.class;
            holds(5, !constant || Modifier.isFinal(f.getModifiers()) && number, "constant " + f);
            holds(1, nested || Modifier.isPrivate(f.getModifiers()) || f.getName().equals("NONE"), "field " + f);
        }
        holds(11, fields <= FIELDS, c.getName() + " has " + fields + " fields");
        for (Method m : c.getDeclaredMethods()) {
            boolean hidden = Modifier.isPrivate(m.getModifiers());
            holds(1, nested || hidden || !Modifier.isStatic(m.getModifiers()), "method " + m);
            holds(1, nested || (m.getModifiers() & (Modifier.PRIVATE | Modifier.PUBLIC)) != 0, "method " + m);
            holds(11, m.getParameterCount() <= PARAMETERS, "parameters of " + m);
            if (nested || hidden) {
                holds(1, !isPublicName(m.getName()), "the name of " + m);
            }
        }
        for (Constructor<?> made : c.getDeclaredConstructors()) {
            holds(11, made.getParameterCount() <= PARAMETERS, "parameters of " + made);
        }
    }

    private static boolean isPublicName(String name) {
        for (Method m : KeyDrive.class.getMethods()) {
            if (m.getDeclaringClass() == KeyDrive.class && m.getName().equals(name)) {
                return true;
            }
        }
        return false;
    }

    /** Methods are short, and calls go no deeper than the rule allows; without recursion. */
    private static void methods(Path file) throws Exception {
        JavaCompiler compiler = ToolProvider.getSystemJavaCompiler();
        StandardJavaFileManager files = compiler.getStandardFileManager(null, null, null);
        JavacTask task = (JavacTask) compiler.getTask(null, files, null, List.of("-proc:none"), null,
                files.getJavaFileObjects(file));
        CompilationUnitTree unit = task.parse().iterator().next();
        task.analyze();
        Calls calls = new Calls(Trees.instance(task), unit);
        calls.scan(unit, null);
        for (Element from : calls.called.keySet()) {
            List<String> way = calls.deepest(from, new HashSet<>());
            holds(11, way.size() <= DEEPEST, way.size() + " deep: " + way);
        }
        files.close();
    }

    /** Which method calls which of the file. */
    private static final class Calls extends TreePathScanner<Void, Void> {
        final Map<Element, Set<Element>> called = new HashMap<>();
        private final Map<Element, List<String>> known = new HashMap<>();
        private final Trees trees;
        private final CompilationUnitTree unit;
        private Element current;

        Calls(Trees trees, CompilationUnitTree unit) {
            this.trees = trees;
            this.unit = unit;
        }

        @Override
        public Void visitClass(ClassTree node, Void p) {
            Element outer = current;
            super.visitClass(node, p);
            current = outer;
            return null;
        }

        @Override
        public Void visitMethod(MethodTree node, Void p) {
            current = trees.getElement(getCurrentPath());
            called.putIfAbsent(current, new HashSet<>());
            long from = trees.getSourcePositions().getStartPosition(unit, node);
            long to = trees.getSourcePositions().getEndPosition(unit, node);
            if (from >= 0 && to > from) {
                long lines = unit.getLineMap().getLineNumber(to) - unit.getLineMap().getLineNumber(from) + 1;
                holds(11, lines <= LONGEST, node.getName() + " has " + lines + " lines");
            }
            super.visitMethod(node, p);
            current = null;
            return null;
        }

        @Override
        public Void visitMethodInvocation(MethodInvocationTree node, Void p) {
            note();
            return super.visitMethodInvocation(node, p);
        }

        @Override
        public Void visitNewClass(NewClassTree node, Void p) {
            note();
            return super.visitNewClass(node, p);
        }

        private void note() {
            Element target = trees.getElement(getCurrentPath());
            if (current != null && target != null) {
                called.get(current).add(target);
            }
        }

        List<String> deepest(Element from, Set<Element> open) {
            if (known.containsKey(from)) {
                return known.get(from);
            }
            holds(8, open.add(from), "recursion of " + from);
            List<String> longest = new ArrayList<>();
            for (Element to : called.getOrDefault(from, Set.of())) {
                if (called.containsKey(to) && !open.contains(to)) {
                    List<String> way = deepest(to, open);
                    longest = way.size() > longest.size() ? way : longest;
                } else {
                    holds(8, !open.contains(to), "recursion of " + to);
                }
            }
            open.remove(from);
            List<String> way = new ArrayList<>();
            way.add(from.getEnclosingElement().getSimpleName() + "." + from.getSimpleName());
            way.addAll(longest);
            known.put(from, way);
            return way;
        }
    }
}
