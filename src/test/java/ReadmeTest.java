import java.io.IOException;
import java.net.URL;
import java.net.URLClassLoader;
import java.nio.file.Files;
import java.nio.file.Path;
import java.util.ArrayList;
import java.util.List;
import java.util.regex.Matcher;
import java.util.regex.Pattern;
import java.util.stream.Collectors;
import java.util.stream.Stream;
import javax.tools.JavaCompiler;
import javax.tools.ToolProvider;

/** What README.md says of answers and of tests is so. Run from the project's root. */
public final class ReadmeTest extends Dues {
    private static final Pattern JAVA = Pattern.compile("(?ms)^```java\n(.*?)^```");
    private static final Pattern ANSWER = Pattern.compile("^(book\\..*\\));\\s+// (-?\\d+)\\b.*$");
    /** Far fewer would mean that the page's lines are no longer understood here. */
    private static final int LEAST_TOLD = 30;
    private static final Path TESTS = Path.of("src/test/java");

    /** The page's Java as a class that takes a row of calls and, for each, what was answered and what was told. */
    private static String program(String page) {
        StringBuilder made = new StringBuilder("import java.util.List;\npublic final class Shown {\n"
            + "public static void answers(List<String> calls, List<Integer> got, List<Integer> told) {\n");
        Matcher blocks = JAVA.matcher(page);
        while (blocks.find()) {
            made.append("{\n");
            for (String line : blocks.group(1).split("\n")) {
                Matcher answer = ANSWER.matcher(line);
                if (answer.matches()) {
                    String call = answer.group(1);
                    made.append("calls.add(\"").append(call).append("\"); got.add(").append(call)
                        .append("); told.add(").append(answer.group(2)).append(");\n");
                } else {
                    made.append(line).append('\n');
                }
            }
            made.append("}\n");
        }
        return made.append("}\n}\n").toString();
    }

    private static void runShown(String page) throws IOException, ReflectiveOperationException {
        Path place = Files.createTempDirectory("readme");
        Path source = place.resolve("Shown.java");
        Files.writeString(source, program(page));
        JavaCompiler compiler = ToolProvider.getSystemJavaCompiler();
        int exit = compiler.run(null, null, null, "-classpath", System.getProperty("java.class.path"),
            "-d", place.toString(), source.toString());
        due("the compiler on README.md's Java", exit, 0);
        if (exit == 0) {
            runCompiled(place);
        }
        for (String made : List.of("Shown.java", "Shown.class")) {
            Files.deleteIfExists(place.resolve(made));
        }
        Files.delete(place);
    }

    private static void runCompiled(Path place) throws IOException, ReflectiveOperationException {
        List<String> calls = new ArrayList<>();
        List<Integer> got = new ArrayList<>();
        List<Integer> told = new ArrayList<>();
        try (URLClassLoader loader = new URLClassLoader(new URL[] {place.toUri().toURL()})) {
            loader.loadClass("Shown").getMethod("answers", List.class, List.class, List.class)
                .invoke(null, calls, got, told);
        }
        for (int i = 0; i < calls.size(); i++) {
            due("README.md: " + calls.get(i), got.get(i), told.get(i));
        }
        if (calls.size() < LEAST_TOLD) {
            fault("README.md tells " + calls.size() + " answers alone");
        }
    }

    private static void lookForTests(String page) throws IOException {
        try (Stream<Path> files = Files.list(TESTS)) {
            for (Path file : files.collect(Collectors.toList())) {
                String name = file.getFileName().toString().replace(".java", "");
                if (!page.contains("`" + name + "`")) {
                    fault("README.md does not name " + name);
                }
            }
        }
        Matcher named = Pattern.compile("`(\\w+Test)`").matcher(page);
        while (named.find()) {
            if (!Files.exists(TESTS.resolve(named.group(1) + ".java"))) {
                fault("README.md names " + named.group(1) + ", which is not there");
            }
        }
    }

    public static void main(String[] args) throws IOException, ReflectiveOperationException {
        String page = Files.readString(Path.of("README.md"));
        runShown(page);
        lookForTests(page);
        finish();
    }
}
