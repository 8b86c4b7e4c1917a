import java.io.IOException;
import java.lang.invoke.MethodHandles;
import java.nio.file.Files;
import java.nio.file.Path;
import java.util.Set;
import java.util.TreeSet;
import java.util.regex.Matcher;
import java.util.regex.Pattern;
import javax.tools.ToolProvider;

/** The examples of README.md answer what stands behind them, and its table names each method of the class once. */
public final class ReadmeTest {
    private static final Pattern ANSWERED = Pattern.compile("(\\S.*);\\s+// (throws (\\w+)|-?\\d+|true|false|\"[^\"]*\").*");

    private static String examplesOf(String readme) {
        StringBuilder examples = new StringBuilder();
        Matcher block = Pattern.compile("```java\n(.*?)```", Pattern.DOTALL).matcher(readme);
        while (block.find()) {
            examples.append(block.group(1));
        }
        return examples.toString();
    }

    /** A line with an answer behind its call becomes a check; another one stays. */
    private static String checkOf(String line) {
        Matcher answered = ANSWERED.matcher(line);
        if (!answered.matches()) {
            return line;
        }
        String call = answered.group(1);
        String label = "\"" + call.replace("\"", "\\\"") + "\", ";
        if (answered.group(3) != null) {
            return "Check.refused(" + label + answered.group(3) + ".class, () -> " + call + ");";
        }
        return "Check.due(" + label + call + ", " + answered.group(2) + ");";
    }

    private static String programOf(String examples) {
        StringBuilder program = new StringBuilder("class Readme {\nstatic void examples() {\n");
        for (String line : examples.split("\n")) {
            program.append(checkOf(line)).append('\n');
        }
        return program.append("}\n}\n").toString();
    }

    private static void runExamples(String program) throws IOException, ReflectiveOperationException {
        Path made = Files.createTempDirectory("readme");
        Path source = made.resolve("Readme.java");
        Path compiled = made.resolve("Readme.class");
        Files.writeString(source, program);
        String path = System.getProperty("java.class.path");
        int failed = ToolProvider.getSystemJavaCompiler().run(null, null, null, "-cp", path, "-d", made.toString(), source.toString());
        Check.due("the compiler", failed, 0);
        if (failed == 0) {
            // Beside this class, so that the examples may use the others of the tests.
            Class<?> examples = MethodHandles.lookup().defineClass(Files.readAllBytes(compiled));
            examples.getDeclaredMethod("examples").invoke(null);
        }
        Files.deleteIfExists(source);
        Files.deleteIfExists(compiled);
        Files.delete(made);
    }

    private static void tableNamesAll(String readme) {
        Set<String> named = new TreeSet<>();
        for (String line : readme.split("\n")) {
            Matcher name = Pattern.compile("`(\\w+)`").matcher(line.startsWith("|") ? line : "");
            while (name.find()) {
                Check.due("the table names " + name.group(1) + " once", named.add(name.group(1)), true);
            }
        }
        Check.due("the methods in the table", named, FaceTest.namesOfTheFace());
    }

    public static void main(String[] args) throws IOException, ReflectiveOperationException {
        Check.about("README.md: ");
        String readme = Files.readString(Path.of("README.md"));
        String program = programOf(examplesOf(readme));
        Check.due("has examples with answers", program.contains("Check.due") && program.contains("Check.refused"), true);
        runExamples(program);
        tableNamesAll(readme);
        Check.end();
    }
}
