import java.io.IOException;
import java.lang.reflect.InvocationTargetException;
import java.net.URL;
import java.net.URLClassLoader;
import java.nio.file.Files;
import java.nio.file.Path;
import java.util.ArrayList;
import java.util.List;
import java.util.regex.Matcher;
import java.util.regex.Pattern;
import java.util.stream.Stream;
import javax.tools.ToolProvider;

/** README.md: the answers that its code tells, and that no call and no test is left out. */
public final class ReadmeTest {
    private static final Pattern BLOCK = Pattern.compile("(?s)```java\n(.*?)```");
    private static final Pattern TELLS = Pattern.compile("(x\\.\\w+\\(.*\\)); +// (-?\\d+|Long\\.MIN_VALUE): .+");
    private static final Pattern OF_FACE = Pattern.compile(" {4}public (?:int|long) (\\w+\\(.*\\));");

    private final Due due = new Due();
    private final String readme = Files.readString(Path.of("README.md"));
    private final List<String> calls = new ArrayList<>();
    private final List<Long> told = new ArrayList<>();

    private ReadmeTest() throws IOException { }

    public static void main(String[] args) throws Exception {
        ReadmeTest test = new ReadmeTest();
        test.answersAreAsTold();
        test.eachCallIsNamed();
        test.eachTestIsNamed();
        test.due.finish();
    }

    private void answersAreAsTold() throws Exception {
        String code = example();
        List<Long> answers = new ArrayList<>();
        Path folder = Files.createTempDirectory("readme");
        try {
            Path source = Files.writeString(folder.resolve("Example.java"), code);
            int exit = ToolProvider.getSystemJavaCompiler().run(null, null, null, "-cp",
                System.getProperty("java.class.path"), "-d", folder.toString(), source.toString());
            due.is("the code of the page, compiled,", exit, 0);
            if (exit == 0) {
                runFrom(folder, answers);
            }
        } finally {
            remove(folder);
        }
        due.isTrue("the page tells answers", !calls.isEmpty());
        due.is("how many of them", answers.size(), told.size());
        for (int k = 0; k < answers.size(); k++) {
            due.is("README: " + calls.get(k), answers.get(k), told.get(k));
        }
    }

    /** The code of the page as a class; the calls whose answers a comment tells are kept. */
    private String example() {
        StringBuilder code = new StringBuilder("public final class Example {\n");
        code.append("public static void run(java.util.List<Long> answers) {\n");
        Matcher block = BLOCK.matcher(readme);
        while (block.find()) {
            for (String line : block.group(1).split("\n")) {
                code.append(keptFrom(line)).append('\n');
            }
        }
        return code.append("}\n}\n").toString();
    }

    private String keptFrom(String line) {
        Matcher tells = TELLS.matcher(line);
        if (!tells.matches()) {
            due.isTrue("what a comment of the page tells is an answer: " + line, !line.contains("//"));
            return line;
        }
        calls.add(tells.group(1));
        String answer = tells.group(2);
        told.add(answer.startsWith("Long") ? Long.MIN_VALUE : Long.parseLong(answer));
        return "answers.add((long) " + tells.group(1) + ");";
    }

    private void runFrom(Path folder, List<Long> answers) throws Exception {
        try (URLClassLoader loader = new URLClassLoader(new URL[] {folder.toUri().toURL()})) {
            loader.loadClass("Example").getMethod("run", List.class).invoke(null, answers);
        } catch (InvocationTargetException e) {
            due.isTrue("the code of the page threw " + e.getCause(), false);
        }
    }

    private static void remove(Path folder) throws IOException {
        try (Stream<Path> files = Files.list(folder)) {
            for (Path file : files.toList()) {
                Files.delete(file);
            }
        }
        Files.delete(folder);
    }

    private void eachCallIsNamed() throws IOException {
        int count = 0;
        for (String line : Files.readAllLines(Path.of("../shared/DOC.md"))) {
            Matcher call = OF_FACE.matcher(line);
            if (call.matches()) {
                count++;
                String named = call.group(1).replaceAll("\\b(int|boolean) ", "");
                due.isTrue("README names " + named, readme.contains("| `" + named + "` |"));
            }
        }
        due.is("calls of the face", count, 25);
    }

    private void eachTestIsNamed() throws IOException {
        due.isTrue("README says how to run the tests", readme.contains("\n    .ci/run\n"));
        try (Stream<Path> files = Files.list(Path.of("src/test/java"))) {
            for (Path file : files.toList()) {
                String name = file.getFileName().toString().replace(".java", "");
                boolean named = readme.contains("- `" + name + "`: ");
                due.isTrue("README names " + name, named || !name.endsWith("Test"));
            }
        }
    }
}
