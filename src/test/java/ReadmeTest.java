import java.io.IOException;
import java.net.URL;
import java.net.URLClassLoader;
import java.nio.file.Files;
import java.nio.file.Path;
import java.util.ArrayList;
import java.util.Comparator;
import java.util.List;
import java.util.Set;
import java.util.TreeSet;
import java.util.function.Supplier;
import java.util.regex.Matcher;
import java.util.regex.Pattern;
import java.util.stream.Stream;
import javax.tools.ToolProvider;

/**
 * README.md's examples are compiled as they stand there and called: each call answers what stands
 * behind it, and every method of the class is shown.
 */
public final class ReadmeTest {
    private static final String NEW_OBJECT = "VersionTrans x = new VersionTrans();";
    private static final Pattern LINE = Pattern.compile(
            "(?:int (?<name>\\w+) = )?(?<call>x\\.(?<method>\\w+)\\(.*\\)); +// (?<answer>throws \\w+|-?\\d+|true|false)(?:: .+)?");

    private final Check check = new Check();
    private final Set<String> shown = new TreeSet<>();
    private final List<String> calls = new ArrayList<>();
    private final List<String> due = new ArrayList<>();

    public static void main(String[] args) throws Exception {
        new ReadmeTest().run();
    }

    private void run() throws Exception {
        List<String> page = Files.readAllLines(Path.of("README.md"));
        List<List<String>> examples = examples(page);
        check.due("there are examples", true, !examples.isEmpty());
        Path folder = Files.createTempDirectory("readme");
        try {
            for (int i = 0; i < examples.size(); i++) {
                compare(examples.get(i), "Example" + i, folder);
            }
        } finally {
            delete(folder);
        }
        for (var method : VersionTrans.class.getMethods()) {
            if (method.getDeclaringClass() == VersionTrans.class) {
                check.due(method.getName() + " is shown in an example", true, shown.contains(method.getName()));
                check.due(method.getName() + " is told in the table", true,
                        page.stream().anyMatch(line -> line.startsWith("| `" + method.getName() + "(")));
            }
        }
        for (Path test : tests()) {
            String name = test.getFileName().toString().replace(".java", "");
            check.due(name + " is told", true, page.stream().anyMatch(line -> line.contains("`" + name + "`")));
        }
        check.due(".ci/run is told", true, page.contains(".ci/run"));
        check.end();
    }

    private static List<Path> tests() throws IOException {
        try (Stream<Path> files = Files.list(Path.of("src/test/java"))) {
            return files.filter(file -> file.toString().endsWith("Test.java")).sorted().toList();
        }
    }

    private static List<List<String>> examples(List<String> page) {
        List<List<String>> all = new ArrayList<>();
        List<String> open = null;
        for (String line : page) {
            if (line.equals("```java")) {
                open = new ArrayList<>();
                all.add(open);
            } else if (line.startsWith("```")) {
                open = null;
            } else if (open != null) {
                open.add(line);
            }
        }
        return all;
    }

    private void compare(List<String> lines, String name, Path folder) throws Exception {
        calls.clear();
        due.clear();
        String source = source(lines, name);
        List<Object> answers = compiled(source, name, folder).get();
        check.due(name + ": how many answers", due.size(), answers.size());
        for (int i = 0; i < due.size() && i < answers.size(); i++) {
            check.due(name + ": " + calls.get(i), due.get(i), String.valueOf(answers.get(i)));
        }
    }

    /** A class that makes the example's calls and answers their answers. */
    private String source(List<String> lines, String name) {
        StringBuilder text = new StringBuilder();
        text.append("public class ").append(name)
                .append(" implements java.util.function.Supplier<java.util.List<Object>> {\n")
                .append("public java.util.List<Object> get() {\n")
                .append("java.util.List<Object> answers = new java.util.ArrayList<>();\n");
        for (String line : lines) {
            Matcher m = LINE.matcher(line);
            if (m.matches()) {
                calls.add(m.group("call"));
                due.add(m.group("answer"));
                shown.add(m.group("method"));
                text.append(m.group("name") == null ? asked(m.group("call"))
                        : line + "\nanswers.add(" + m.group("name") + ");\n");
            } else {
                check.due("a line of an example", NEW_OBJECT, line);
                text.append(line).append('\n');
            }
        }
        return text.append("return answers;\n}\n}\n").toString();
    }

    private static String asked(String call) {
        return "try { answers.add(" + call + "); }"
                + " catch (RuntimeException e) { answers.add(\"throws \" + e.getClass().getSimpleName()); }\n";
    }

    @SuppressWarnings("unchecked")
    private static Supplier<List<Object>> compiled(String source, String name, Path folder) throws Exception {
        Path file = folder.resolve(name + ".java");
        Files.writeString(file, source);
        int failed = ToolProvider.getSystemJavaCompiler().run(null, null, null,
                "-classpath", System.getProperty("java.class.path"), "-d", folder.toString(), file.toString());
        if (failed != 0) {
            throw new IllegalStateException(name + " is not Java:\n" + source);
        }
        URLClassLoader loader = new URLClassLoader(new URL[] {folder.toUri().toURL()});
        return (Supplier<List<Object>>) loader.loadClass(name).getDeclaredConstructor().newInstance();
    }

    private static void delete(Path folder) throws IOException {
        try (Stream<Path> files = Files.walk(folder)) {
            for (Path file : files.sorted(Comparator.reverseOrder()).toList()) {
                Files.delete(file);
            }
        }
    }
}
