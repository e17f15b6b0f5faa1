import java.io.IOException;
import java.io.StringWriter;
import java.net.URL;
import java.net.URLClassLoader;
import java.nio.file.Files;
import java.nio.file.Path;
import java.util.List;
import java.util.regex.Matcher;
import java.util.regex.Pattern;
import java.util.stream.Stream;
import javax.tools.JavaCompiler;
import javax.tools.StandardJavaFileManager;
import javax.tools.ToolProvider;

/** The example of README.md compiles and answers as it says there; every call and every test is told there. */
public final class ReadmeTest {
    private static final Path README = Path.of("README.md");
    private static final Pattern EXAMPLE = Pattern.compile("(?s)## Use\n.*?```java\n(.*?)```");
    private static final Pattern ANSWERED = Pattern.compile("x\\.(\\w+)\\((.*)\\); +// (-?\\d+|[A-Z]+)(:.*)?");
    private static final Pattern CALL = Pattern.compile("(?m)^    public (?:int|long) (\\w+)\\((.*)\\);$");

    private static int answers = 0;

    private ReadmeTest() {
    }

    public static void main(String[] args) throws IOException, ReflectiveOperationException {
        String readme = Files.readString(README);
        callsAreTold(readme);
        testsAreTold(readme);
        Matcher example = EXAMPLE.matcher(readme);
        Due.is("an example under Use", example.find() ? 1 : 0, 1);
        Path out = Files.createTempDirectory("readme");
        try {
            runExample(example.group(1), out);
        } finally {
            removeAll(out);
        }
        Due.end();
    }

    /** Each call of the face, with the names that the document gives its numbers. */
    private static void callsAreTold(String readme) throws IOException {
        Matcher call = CALL.matcher(Files.readString(Path.of("../shared/DOC.md")));
        int calls = 0;
        while (call.find()) {
            calls++;
            String told = "| `" + call.group(1) + "(" + call.group(2).replaceAll("\\b(int|long) ", "") + ")` |";
            Due.is("README.md tells " + told, readme.contains(told) ? 1 : 0, 1);
        }
        Due.is("calls of the document", calls, 34);
    }

    private static void testsAreTold(String readme) throws IOException {
        try (Stream<Path> files = Files.list(Path.of("src/test/java"))) {
            for (Path file : files.toList()) {
                String name = file.getFileName().toString().replace(".java", "");
                if (!name.endsWith("Test")) continue;
                Due.is("README.md tells of " + name, readme.contains("`" + name + "`") ? 1 : 0, 1);
            }
        }
        Due.is("README.md tells how to run the tests", readme.contains("\n.ci/run\n") ? 1 : 0, 1);
    }

    private static void runExample(String example, Path out) throws IOException, ReflectiveOperationException {
        Path source = out.resolve("Example.java");
        Files.writeString(source, asProgram(example));
        Due.is("README.md's example compiles", compiles(source, out) ? 1 : 0, 1);
        if (!Files.exists(out.resolve("Example.class"))) return;
        try (URLClassLoader loader = new URLClassLoader(new URL[] {out.toUri().toURL()})) {
            Class<?> made = loader.loadClass("Example");
            made.getMethod("asItStands").invoke(null);
            long[][] pairs = (long[][]) made.getMethod("answers").invoke(null);
            String[] calls = (String[]) made.getMethod("calls").invoke(null);
            Due.is("answers of README.md's example", pairs.length, answers);
            for (int k = 0; k < pairs.length; k++) Due.is("README.md's " + calls[k], pairs[k][0], pairs[k][1]);
        }
    }

    /** The example as it stands, and once more with every answer put beside the one that is told. */
    private static String asProgram(String example) {
        StringBuilder calls = new StringBuilder();
        StringBuilder got = new StringBuilder();
        for (String line : example.split("\n")) {
            Matcher answered = ANSWERED.matcher(line);
            if (answered.matches()) {
                answers++;
                String call = "x." + answered.group(1) + "(" + answered.group(2) + ")";
                calls.append("\"").append(call).append("\",\n");
                got.append("got.add(new long[] {").append(call).append(", ").append(due(answered.group(3))).append("});\n");
            } else {
                boolean plain = line.isBlank() || line.startsWith("//") || line.startsWith("HollowPress x = ");
                Due.is("an answer is told behind: " + line, plain || line.startsWith("for (") ? 1 : 0, 1);
                got.append(line).append("\n");
            }
        }
        return "import java.util.ArrayList;\nimport java.util.List;\n\npublic final class Example {\n"
            + "public static void asItStands() {\n" + example + "}\n"
            + "public static String[] calls() {\nreturn new String[] {\n" + calls + "};\n}\n"
            + "public static long[][] answers() {\nList<long[]> got = new ArrayList<>();\n" + got
            + "return got.toArray(new long[0][]);\n}\n}\n";
    }

    private static String due(String told) {
        return told.matches("-?\\d+") ? told + "L" : "HollowPress." + told;
    }

    private static boolean compiles(Path source, Path out) throws IOException {
        JavaCompiler compiler = ToolProvider.getSystemJavaCompiler();
        Due.is("there is a compiler", compiler == null ? 0 : 1, 1);
        if (compiler == null) return false;
        StringWriter said = new StringWriter();
        try (StandardJavaFileManager files = compiler.getStandardFileManager(null, null, null)) {
            List<String> options = List.of("-Xlint:all", "-Werror", "-d", out.toString(),
                "-cp", System.getProperty("java.class.path"));
            boolean fine = compiler.getTask(said, files, null, options, null, files.getJavaFileObjects(source)).call();
            System.out.print(said);
            return fine;
        }
    }

    private static void removeAll(Path dir) throws IOException {
        try (Stream<Path> files = Files.list(dir)) {
            for (Path file : files.toList()) Files.delete(file);
        }
        Files.delete(dir);
    }
}
