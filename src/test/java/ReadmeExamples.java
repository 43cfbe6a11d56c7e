import java.io.IOException;
import java.net.URL;
import java.net.URLClassLoader;
import java.nio.file.Files;
import java.nio.file.Path;
import java.util.List;
import java.util.regex.Matcher;
import java.util.regex.Pattern;
import javax.tools.ToolProvider;

/**
 * The examples of README.md, one behind the other as one program: each call behind which an answer stands
 * is held against it. Run from the project's root.
 */
public final class ReadmeExamples {
    private static final Pattern CALL = Pattern.compile("(int \\w+ = )?(x\\.\\w+\\(.*\\)); +// (-?\\d+): .*");
    private static final Path OUT = Path.of("build/readme");
    private static final int LEAST_CALLS = 20;

    private static int asked = 0;
    private static int wrong = 0;

    public static void main(String[] args) throws IOException, ReflectiveOperationException {
        String program = program(Files.readAllLines(Path.of("README.md")));
        Files.createDirectories(OUT);
        Path file = Files.writeString(OUT.resolve("Examples.java"), program);
        int failed = ToolProvider.getSystemJavaCompiler().run(null, System.out, System.out,
            "-d", OUT.toString(), "-cp", System.getProperty("java.class.path"), file.toString());
        if (failed != 0) {
            System.out.println("the examples do not compile");
            System.exit(1);
        }
        try (URLClassLoader loader = new URLClassLoader(new URL[] {OUT.toUri().toURL()})) {
            loader.loadClass("Examples").getMethod("go").invoke(null);
        }
        if (asked < LEAST_CALLS) {
            wrong++;
            System.out.println("only " + asked + " calls with an answer were found in README.md");
        }
        System.out.println(wrong == 0 ? "all " + asked + " answers are as README.md says" : wrong + " answers are not as README.md says");
        if (wrong != 0) {
            System.exit(1);
        }
    }

    public static long due(String call, long got, long want) {
        asked++;
        if (got != want) {
            wrong++;
            System.out.println(call + " answered " + got + ", README.md says " + want);
        }
        return got;
    }

    private static String program(List<String> readme) {
        StringBuilder code = new StringBuilder("public final class Examples {\npublic static void go() {\n");
        boolean isCode = false;
        for (String line : readme) {
            if (line.startsWith("```")) {
                isCode = line.equals("```java");
            } else if (isCode) {
                code.append(asTest(line)).append('\n');
            }
        }
        return code.append("}\n}\n").toString();
    }

    private static String asTest(String line) {
        Matcher call = CALL.matcher(line);
        if (!call.matches()) {
            return line;
        }
        String begin = call.group(1) == null ? "" : call.group(1) + "(int) ";
        return begin + "ReadmeExamples.due(\"" + call.group(2) + "\", " + call.group(2) + ", " + call.group(3) + ");";
    }
}
