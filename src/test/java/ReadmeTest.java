import java.io.StringWriter;
import java.net.URI;
import java.net.URL;
import java.net.URLClassLoader;
import java.nio.file.Files;
import java.nio.file.Path;
import java.util.Comparator;
import java.util.List;
import java.util.regex.Matcher;
import java.util.regex.Pattern;
import java.util.stream.Stream;
import javax.tools.JavaCompiler;
import javax.tools.JavaFileObject;
import javax.tools.SimpleJavaFileObject;
import javax.tools.ToolProvider;

/** Runs the example of README.md: each call must answer the number that its comment begins with. */
public final class ReadmeTest {
    private static final Pattern EXAMPLE = Pattern.compile("(?s)```java\n(.*?)```");
    private static final Pattern CALL = Pattern.compile("(int (\\w+) = )?(venue\\..*);\\s+// (-?\\d+): .*");
    private static final Checks checks = new Checks();

    /** What the example, compiled, tells of each of its calls. */
    public static void due(String call, int got, int want) {
        checks.due(call, got, want);
    }

    public static void main(String[] args) throws Exception {
        Matcher example = EXAMPLE.matcher(Files.readString(Path.of("README.md")));
        checks.holds("README.md has an example", example.find());
        StringBuilder body = new StringBuilder();
        int calls = 0;
        for (String line : example.group(1).split("\n")) {
            Matcher call = CALL.matcher(line);
            if (!call.matches()) {
                body.append(line).append('\n');
                continue;
            }
            calls++;
            String answer = call.group(2) == null ? "answer" + calls : call.group(2);
            body.append("int ").append(answer).append(" = ").append(call.group(3)).append(";\n")
                .append("ReadmeTest.due(\"").append(call.group(3)).append("\", ").append(answer).append(", ")
                .append(call.group(4)).append(");\n");
        }
        int asked = run("public final class Example { public static void example() {\n" + body + "} }");
        checks.due("calls of the example that were asked", asked, calls);
        checks.holds("the example has calls", calls > 0);
        checks.finish("ReadmeTest");
    }

    /** Compiles and runs the example, and returns how many of its answers were looked at. */
    private static int run(String source) throws Exception {
        Path out = Files.createTempDirectory("readme");
        try {
            JavaCompiler compiler = ToolProvider.getSystemJavaCompiler();
            JavaFileObject file = new SimpleJavaFileObject(URI.create("string:///Example.java"), JavaFileObject.Kind.SOURCE) {
                @Override
                public CharSequence getCharContent(boolean ignoreErrors) {
                    return source;
                }
            };
            StringWriter messages = new StringWriter();
            List<String> options = List.of("-d", out.toString(), "-cp", System.getProperty("java.class.path"));
            boolean compiled = compiler.getTask(messages, null, null, options, null, List.of(file)).call();
            checks.holds("the example can be compiled " + messages, compiled);
            int before = checks.asked();
            if (compiled) {
                runClass(out);
            }
            return checks.asked() - before;
        } finally {
            try (Stream<Path> paths = Files.walk(out)) {
                for (Path path : paths.sorted(Comparator.reverseOrder()).toList()) {
                    Files.delete(path);
                }
            }
        }
    }

    private static void runClass(Path out) throws Exception {
        try (URLClassLoader loader = new URLClassLoader(new URL[] {out.toUri().toURL()})) {
            loader.loadClass("Example").getMethod("example").invoke(null);
        }
    }
}
