import java.io.File;
import java.io.IOException;
import java.lang.reflect.Method;
import java.lang.reflect.Modifier;
import java.net.URL;
import java.net.URLClassLoader;
import java.nio.file.Files;
import java.nio.file.Path;
import java.util.ArrayList;
import java.util.Arrays;
import java.util.List;
import java.util.Set;
import java.util.TreeSet;
import java.util.regex.Matcher;
import java.util.regex.Pattern;
import java.util.stream.Collectors;
import java.util.stream.Stream;
import javax.tools.ToolProvider;

/** What README.md shows is compiled and run as it stands there, and what it says of the tests is so. */
public final class ReadmeTest {
    private static final Path README = Path.of("README.md");
    private static final Pattern SHOWN = Pattern.compile("(x\\.(\\w+)\\(.*\\)); *// (NONE|HIDDEN|true|false|-?\\d+|throws \\w+)(:.*)?");

    /** A call of README.md and the answer that it shows there. */
    private record Row(String call, String name, String answer) {
    }

    public static void main(String[] args) throws Exception {
        String readme = Files.readString(README);
        answers(readme);
        howToRun(readme);
        tableOfTests(readme);
        Check.finish("ReadmeTest");
    }

    private static void answers(String readme) throws Exception {
        List<Row> rows = new ArrayList<>();
        String program = program(readme, rows);
        List<String> got = run(program);
        Check.due("calls that were run", got.size(), rows.size());
        for (int i = 0; i < Math.min(got.size(), rows.size()); i++) {
            Check.due("README.md: " + rows.get(i).call, got.get(i), rows.get(i).answer);
        }
        Set<String> face = Arrays.stream(LabelRoom.class.getDeclaredMethods())
            .filter(method -> Modifier.isPublic(method.getModifiers())).map(Method::getName)
            .collect(Collectors.toCollection(TreeSet::new));
        Set<String> shown = rows.stream().map(Row::name).collect(Collectors.toCollection(TreeSet::new));
        Check.due("methods that README.md shows", shown.toString(), face.toString());
    }

    /** All that stands in README.md as Java, with each call's answer put into a list. */
    private static String program(String readme, List<Row> rows) {
        StringBuilder members = new StringBuilder();
        StringBuilder body = new StringBuilder();
        Matcher blocks = Pattern.compile("```java\n(.*?)```", Pattern.DOTALL).matcher(readme);
        while (blocks.find()) {
            if (blocks.group(1).startsWith("static ")) {
                members.append(blocks.group(1));
                continue;
            }
            for (String line : blocks.group(1).split("\n")) {
                Matcher shown = SHOWN.matcher(line);
                if (shown.matches()) {
                    rows.add(new Row(shown.group(1), shown.group(2), plain(shown.group(3))));
                    body.append("try { got.add(String.valueOf(").append(shown.group(1))
                        .append(")); } catch (RuntimeException e) { got.add(\"throws \" + e.getClass().getSimpleName()); }\n");
                } else {
                    Check.due("\"" + line + "\" is a call without its answer", line.startsWith("x."), false);
                    body.append(line).append('\n');
                }
            }
        }
        return "public final class Shown {\n" + members + "public static java.util.List<String> run() {\n"
            + "java.util.List<String> got = new java.util.ArrayList<>();\n" + body + "return got;\n}\n}\n";
    }

    private static String plain(String answer) {
        return answer.equals("NONE") ? "" + LabelRoom.NONE : answer.equals("HIDDEN") ? "" + LabelRoom.HIDDEN : answer;
    }

    private static List<String> run(String program) throws Exception {
        Path folder = Files.createTempDirectory("readme");
        Path file = folder.resolve("Shown.java");
        try {
            Files.writeString(file, program);
            int code = ToolProvider.getSystemJavaCompiler().run(null, null, null, "-cp",
                System.getProperty("java.class.path"), "-d", folder.toString(), file.toString());
            Check.due("what README.md shows compiles", code, 0);
            return code == 0 ? load(folder) : List.of();
        } finally {
            try (Stream<Path> made = Files.list(folder)) {
                made.map(Path::toFile).forEach(File::delete);
            }
            Files.delete(folder);
        }
    }

    private static List<String> load(Path folder) throws Exception {
        try (URLClassLoader loader = new URLClassLoader(new URL[] {folder.toUri().toURL()})) {
            Object got = loader.loadClass("Shown").getMethod("run").invoke(null);
            return ((List<?>) got).stream().map(String::valueOf).collect(Collectors.toList());
        }
    }

    private static void howToRun(String readme) {
        Matcher line = Pattern.compile("## How to run the tests\n\n {4}(\\S+)\n").matcher(readme);
        boolean told = line.find();
        Check.due("README.md has a line that runs the tests", told, true);
        Check.due("the line is a script that can be run from here", told && Files.isExecutable(Path.of(line.group(1))), true);
    }

    private static void tableOfTests(String readme) throws IOException {
        Set<String> told = new TreeSet<>();
        Matcher row = Pattern.compile("\n\\| (\\w+Test) \\|").matcher(readme);
        while (row.find()) {
            told.add(row.group(1));
        }
        try (Stream<Path> files = Files.list(Path.of("src/test/java"))) {
            Set<String> there = files.map(file -> file.getFileName().toString()).filter(name -> name.endsWith("Test.java"))
                .map(name -> name.substring(0, name.length() - 5)).collect(Collectors.toCollection(TreeSet::new));
            Check.due("tests in the table of README.md", told.toString(), there.toString());
        }
    }
}
