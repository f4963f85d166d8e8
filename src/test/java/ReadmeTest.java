import java.io.IOException;
import java.lang.reflect.Method;
import java.lang.reflect.Modifier;
import java.net.URL;
import java.net.URLClassLoader;
import java.nio.charset.StandardCharsets;
import java.nio.file.Files;
import java.nio.file.Path;
import java.nio.file.Paths;
import java.util.ArrayList;
import java.util.List;
import java.util.regex.Matcher;
import java.util.regex.Pattern;
import javax.tools.JavaCompiler;
import javax.tools.ToolProvider;

/** README.md holds: its examples answer what it says. The path of the class is the first argument. */
public final class ReadmeTest {
    private static final Pattern BLOCK = Pattern.compile("```java\n(.*?)```", Pattern.DOTALL);
    private static final Pattern ANSWERED =
            Pattern.compile("(?:int (\\w+) = )?(line\\.\\w+\\(.*\\));\\s+// (-?\\d+)(?::.*)?");

    private static final Check CHECK = new Check("ReadmeTest");
    // The calls of all examples, in order, with the answers that are due.
    private static final List<String> CALLS = new ArrayList<>();
    private static final List<Integer> WANTED = new ArrayList<>();

    /** The examples as one program, whose method answers() gives what each call answered. */
    private static String program(String readme) {
        StringBuilder methods = new StringBuilder();
        StringBuilder calls = new StringBuilder();
        int examples = 0;
        Matcher block = BLOCK.matcher(readme);
        while (block.find()) {
            methods.append("static void example").append(examples).append("() {\n");
            for (String line : block.group(1).split("\n")) {
                methods.append(statement(line)).append('\n');
            }
            methods.append("}\n");
            calls.append("example").append(examples).append("();\n");
            examples++;
        }
        CHECK.holds("there are examples", examples > 0);
        return "public final class ReadmeExamples {\n"
                + "static final java.util.List<Integer> GOT = new java.util.ArrayList<>();\n" + methods
                + "public static int[] answers() {\n" + calls
                + "return GOT.stream().mapToInt(i -> i).toArray();\n}\n}\n";
    }

    private static String statement(String line) {
        Matcher m = ANSWERED.matcher(line);
        if (!m.matches()) {
            CHECK.holds("'" + line + "' has an answer behind it", !line.contains("//"));
            return line;
        }
        CALLS.add(m.group(2));
        WANTED.add(Integer.valueOf(m.group(3)));
        String name = m.group(1);
        return name == null
                ? "GOT.add(" + m.group(2) + ");"
                : "int " + name + " = " + m.group(2) + ";\nGOT.add(" + name + ");";
    }

    private static int[] answersOf(String program) throws IOException, ReflectiveOperationException {
        Path out = Files.createTempDirectory("readme");
        Path source = out.resolve("ReadmeExamples.java");
        Files.write(source, program.getBytes(StandardCharsets.UTF_8));
        JavaCompiler compiler = ToolProvider.getSystemJavaCompiler();
        int code = compiler.run(null, null, null, "-cp", System.getProperty("java.class.path"), "-d",
                out.toString(), source.toString());
        CHECK.due("compiling the examples", code, 0);
        Path compiled = out.resolve("ReadmeExamples.class");
        int[] answers = {};
        if (code == 0) {
            try (URLClassLoader loader = new URLClassLoader(new URL[] {out.toUri().toURL()})) {
                answers = (int[]) loader.loadClass("ReadmeExamples").getMethod("answers").invoke(null);
            }
        }
        Files.deleteIfExists(compiled);
        Files.delete(source);
        Files.delete(out);
        return answers;
    }

    private static void namesAllCalls(String readme) {
        for (Method method : MiddleSpans.class.getDeclaredMethods()) {
            if (Modifier.isPublic(method.getModifiers())) {
                CHECK.holds("it has the call " + method.getName(), readme.contains("| `" + method.getName() + "("));
            }
        }
    }

    public static void main(String[] args) throws IOException, ReflectiveOperationException {
        Path root = Paths.get(args[0]).toAbsolutePath().normalize();
        for (int i = 0; i < 4; i++) {
            root = root.getParent();
        }
        String readme = new String(Files.readAllBytes(root.resolve("README.md")), StandardCharsets.UTF_8);
        int[] answers = answersOf(program(readme));
        CHECK.due("calls of the examples", answers.length, CALLS.size());
        for (int i = 0; i < answers.length && i < CALLS.size(); i++) {
            CHECK.due(CALLS.get(i), answers[i], WANTED.get(i));
        }
        namesAllCalls(readme);
        CHECK.holds("it says how to run the tests", readme.contains(".ci/run"));
        CHECK.end();
    }
}
