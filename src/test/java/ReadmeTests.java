import java.io.IOException;
import java.lang.reflect.Method;
import java.net.URL;
import java.net.URLClassLoader;
import java.nio.file.Files;
import java.nio.file.Path;
import java.util.Comparator;
import java.util.List;
import java.util.Set;
import java.util.TreeSet;
import java.util.regex.Matcher;
import java.util.regex.Pattern;
import java.util.stream.Stream;
import javax.tools.ToolProvider;

/** What README.md says of the class: its example is run, and its table of calls is laid beside the document's face. */
public final class ReadmeTests {
    private static final Checks CHECKS = new Checks();
    private static final Pattern EXAMPLE = Pattern.compile("\n```java\n(.*?)\n```\n", Pattern.DOTALL);
    private static final Pattern ANSWERED = Pattern.compile("(x\\.\\w+\\(.*?\\));\\s*// (-?\\d+).*");
    private static final Pattern TABLE = Pattern.compile("\n### The calls\n(.*?)\n## ", Pattern.DOTALL);
    private static final Pattern TABLED = Pattern.compile("`(\\w+\\([^)`]*\\))`");
    private static final Pattern FACE = Pattern.compile("public (?:int|long) (\\w+\\([^)]*\\));");

    public static void main(String[] args) throws IOException, ReflectiveOperationException {
        String page = Files.readString(Path.of("README.md")).replace("\r", "");
        example(first(EXAMPLE, page));
        calls(first(TABLE, page), Files.readString(Path.of("../shared/DOC.md")));
        CHECKS.that("README.md says how the tests are run", page.contains("\n.ci/run\n"));
        try (Stream<Path> files = Files.list(Path.of("src/test/java"))) {
            for (Path file : (Iterable<Path>) files.sorted()::iterator) {
                String name = file.getFileName().toString().replace(".java", "");
                CHECKS.that("README.md tells of " + name, !name.endsWith("Tests") || page.contains("| `" + name + "` |"));
            }
        }
        CHECKS.end("ReadmeTests");
    }

    private static String first(Pattern pattern, String text) {
        Matcher found = pattern.matcher(text);
        return found.find() ? found.group(1) : "";
    }

    private static void calls(String table, String document) {
        Set<String> tabled = new TreeSet<>();
        Matcher call = TABLED.matcher(table);
        while (call.find()) tabled.add(call.group(1));
        Set<String> face = new TreeSet<>();
        Matcher told = FACE.matcher(document);
        while (told.find()) face.add(told.group(1).replace("int ", ""));
        CHECKS.due("calls of the face", face.size(), 44);
        for (String one : face) CHECKS.that("README.md has " + one, tabled.contains(one));
        for (String one : tabled) CHECKS.that("there is a call " + one, face.contains(one));
    }

    private static void example(String code) throws IOException, ReflectiveOperationException {
        StringBuilder body = new StringBuilder();
        for (String line : code.split("\n")) {
            Matcher answered = ANSWERED.matcher(line);
            CHECKS.that("an answer stands behind " + line, answered.matches() || !line.startsWith("x."));
            body.append(answered.matches() ? "told.add(new long[] {" + answered.group(1) + ", " + answered.group(2) + "});" : line).append('\n');
        }
        Path folder = Files.createTempDirectory("readme");
        try {
            List<?> told = run(folder, body.toString());
            for (int k = 0; k < told.size(); k++) {
                long[] one = (long[]) told.get(k);
                CHECKS.due("call " + k + " of README.md's example", one[0], one[1]);
            }
            CHECKS.that("README.md's example has calls", told.size() >= 10);
        } finally {
            try (Stream<Path> files = Files.walk(folder)) {
                for (Path file : (Iterable<Path>) files.sorted(Comparator.reverseOrder())::iterator) Files.delete(file);
            }
        }
    }

    private static List<?> run(Path folder, String body) throws IOException, ReflectiveOperationException {
        Path file = folder.resolve("ReadmeExample.java");
        Files.writeString(file, "public final class ReadmeExample {\n"
            + "public static java.util.List<long[]> run() {\n"
            + "java.util.List<long[]> told = new java.util.ArrayList<>();\n" + body + "return told;\n}\n}\n");
        int failed = ToolProvider.getSystemJavaCompiler().run(null, null, null,
            "-cp", System.getProperty("java.class.path"), "-d", folder.toString(), file.toString());
        CHECKS.due("README.md's example compiles", failed, 0);
        if (failed != 0) return List.of();
        try (URLClassLoader loader = new URLClassLoader(new URL[] {folder.toUri().toURL()}, ReadmeTests.class.getClassLoader())) {
            Method run = loader.loadClass("ReadmeExample").getMethod("run");
            return (List<?>) run.invoke(null);
        }
    }
}
