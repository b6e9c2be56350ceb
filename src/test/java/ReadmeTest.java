import java.io.ByteArrayOutputStream;
import java.io.IOException;
import java.nio.charset.StandardCharsets;
import java.nio.file.DirectoryStream;
import java.nio.file.Files;
import java.nio.file.Path;
import java.util.ArrayList;
import java.util.List;
import java.util.regex.Matcher;
import java.util.regex.Pattern;
import javax.tools.ToolProvider;

/** The example of README.md, compiled as it stands there: each call answers, or throws, what its comment tells. */
final class ReadmeTest extends Checks {
    private static final Path README = Path.of("README.md");
    private static final Path TESTS = Path.of("src/test/java");
    private static final Path FOLDER = Path.of("build/readme");
    private static final Pattern TOLD =
            Pattern.compile("(int \\w+ = )?(mill\\.[^;]*); +// (answers (-?\\d+(?:\\.\\d+)?)|throws (\\w+))\\b.*");

    public static void main(String[] args) throws IOException, ReflectiveOperationException {
        String readme = Files.readString(README, StandardCharsets.UTF_8);
        int from = readme.indexOf("```java\n") + 8;
        int to = readme.indexOf("```", from);
        due("README.md has an example", from >= 8 && to > from ? 1 : 0, 1);
        compile(programOf(readme.substring(from, to)));
        // The example is loaded by the loader of the tests, since it uses what only its package sees.
        Class.forName("ReadmeExample").getDeclaredMethod("run").invoke(null);
        due("README.md tells how to run the tests", readme.contains("\n    .ci/run\n") ? 1 : 0, 1);
        for (String name : testNames()) {
            due("README.md tells of " + name, readme.contains("| `" + name + "` |") ? 1 : 0, 1);
        }
        end();
    }

    private static String programOf(String example) {
        StringBuilder program = new StringBuilder("final class ReadmeExample extends Checks {\nstatic void run() {\n");
        int told = 0;
        for (String line : example.split("\n")) {
            Matcher matcher = TOLD.matcher(line);
            if (matcher.matches()) {
                program.append(checkOf(matcher));
                told++;
            } else {
                due("this line of the example tells no answer: " + line, line.contains("//") ? 1 : 0, 0);
                program.append(line).append('\n');
            }
        }
        due("the example tells answers", told > 0 ? 1 : 0, 1);
        return program.append("}\n}\n").toString();
    }

    private static String checkOf(Matcher told) {
        String call = told.group(2);
        String quoted = "\"" + call.replace("\"", "\\\"") + "\"";
        if (told.group(5) != null) {
            return "dueText(" + quoted + ", answerOf(() -> " + call + "), \"throws " + told.group(5) + "\");\n";
        }
        if (told.group(1) == null) {
            return "dueText(" + quoted + ", \"\" + " + call + ", \"" + told.group(4) + "\");\n";
        }
        String name = told.group(1).split(" ")[1];
        return told.group() + "\ndue(" + quoted + ", " + name + ", " + told.group(4) + ");\n";
    }

    private static List<String> testNames() throws IOException {
        List<String> names = new ArrayList<>();
        try (DirectoryStream<Path> files = Files.newDirectoryStream(TESTS, "*Test.java")) {
            for (Path file : files) {
                names.add(file.getFileName().toString().replace(".java", ""));
            }
        }
        return names;
    }

    private static void compile(String program) throws IOException {
        Files.createDirectories(FOLDER);
        Path file = FOLDER.resolve("ReadmeExample.java");
        Files.writeString(file, program, StandardCharsets.UTF_8);
        String classes = System.getProperty("java.class.path");
        ByteArrayOutputStream told = new ByteArrayOutputStream();
        int code = ToolProvider.getSystemJavaCompiler().run(null, told, told, "-cp", classes, "-d", classes, file.toString());
        dueText("the compiler, of the example, code " + code, told.toString(StandardCharsets.UTF_8), "");
    }
}
