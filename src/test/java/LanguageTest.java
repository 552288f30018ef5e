import com.sun.source.tree.CompilationUnitTree;
import com.sun.source.util.JavacTask;
import com.sun.source.util.Trees;
import java.io.IOException;
import java.nio.file.Path;
import java.util.ArrayDeque;
import java.util.Deque;
import java.util.HashMap;
import java.util.HashSet;
import java.util.Map;
import java.util.Set;
import javax.lang.model.element.Element;
import javax.lang.model.element.ExecutableElement;
import javax.lang.model.element.Modifier;
import javax.lang.model.type.TypeKind;
import javax.tools.JavaCompiler;
import javax.tools.StandardJavaFileManager;
import javax.tools.ToolProvider;

/** LabelRoom.java, as the compiler reads it, against the rules of LANGUAGE.md that its text shows. */
public final class LanguageTest {
    private static final String SOURCE = "src/main/java/LabelRoom.java";
    private static final int MOST_DEEP = 8;

    public static void main(String[] args) throws IOException {
        JavaCompiler compiler = ToolProvider.getSystemJavaCompiler();
        try (StandardJavaFileManager files = compiler.getStandardFileManager(null, null, null)) {
            JavacTask task = (JavacTask) compiler.getTask(null, files, null, null, null,
                files.getJavaFileObjects(Path.of(SOURCE)));
            CompilationUnitTree file = task.parse().iterator().next();
            task.analyze();
            Rules rules = new Rules(Trees.instance(task), file);
            rules.scan(file, null);
            Check.sentence("rule 11");
            Check.due("some twelve classes (" + rules.classes + ")", rules.classes <= 12, true);
            recursion(rules.calls);
            depth(rules.calls);
        }
        Check.finish("LanguageTest");
    }

    /** All that a method comes to by one call or more. */
    private static Set<Element> reached(Element from, Map<Element, Set<Element>> calls) {
        Set<Element> reached = new HashSet<>();
        Deque<Element> open = new ArrayDeque<>(calls.getOrDefault(from, Set.of()));
        while (!open.isEmpty()) {
            Element one = open.pop();
            if (reached.add(one)) {
                open.addAll(calls.getOrDefault(one, Set.of()));
            }
        }
        return reached;
    }

    private static void recursion(Map<Element, Set<Element>> calls) {
        Check.sentence("rule 8");
        int found = 0;
        for (Element one : calls.keySet()) {
            if (reached(one, calls).contains(one)) {
                found++;
                ExecutableElement method = (ExecutableElement) one;
                Check.due(one + " calls itself and is private", one.getModifiers().contains(Modifier.PRIVATE), true);
                Check.due(one + " calls itself and carries its depth", !method.getParameters().isEmpty()
                    && method.getParameters().get(0).asType().getKind() == TypeKind.INT, true);
            }
        }
        // two of conditions, two of sums, two of the matcher; another one would have to be looked at
        Check.due("methods that call themselves", found, 6);
    }

    private static void depth(Map<Element, Set<Element>> calls) {
        Check.sentence("rule 11");
        Map<Element, Set<Element>> reached = new HashMap<>();
        for (Element one : calls.keySet()) {
            reached.put(one, reached(one, calls));
        }
        for (Element one : calls.keySet()) {
            int deep = deepest(one, calls, reached);
            Check.due(one.getEnclosingElement() + "." + one + " goes " + deep + " deep", deep <= MOST_DEEP, true);
        }
    }

    /** The methods of the longest chain from this one on; those that call one another by turns count once. */
    private static int deepest(Element from, Map<Element, Set<Element>> calls, Map<Element, Set<Element>> reached) {
        int most = 0;
        for (Element turn : calls.keySet()) {
            boolean together = turn == from || reached.get(from).contains(turn) && reached.get(turn).contains(from);
            for (Element next : together ? calls.get(turn) : Set.<Element>of()) {
                boolean back = next == from || reached.get(next).contains(from);
                most = back ? most : Math.max(most, deepest(next, calls, reached));
            }
        }
        return most + 1;
    }
}
