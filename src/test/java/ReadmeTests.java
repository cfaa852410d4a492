import java.io.IOException;
import java.net.URL;
import java.net.URLClassLoader;
import java.nio.file.Files;
import java.nio.file.Path;
import java.util.ArrayList;
import java.util.List;
import java.util.regex.Matcher;
import java.util.regex.Pattern;
import java.util.stream.Stream;
import javax.tools.ToolProvider;

/** README.md holds what it tells: its runs of calls are compiled as they stand there, and answer what stands behind them. */
public final class ReadmeTests {
    private static final String README = "README.md";
    private static final String TESTS = "src/test/java";
    private static final Pattern RUN = Pattern.compile("```java\n(.*?)```", Pattern.DOTALL);
    private static final Pattern CALL = Pattern.compile("(post\\.\\w+\\(.*?\\)); +// (-?\\d+|BAD|NO|FULL|NONE)\\b.*");

    private ReadmeTests() {
    }

    /** A class whose run() makes the calls of one run of the README, and adds each answer that is told. */
    private static String program(String name, String run, List<String> calls, List<Integer> told) {
        StringBuilder program = new StringBuilder("public final class " + name + " {\n  public static java.util.List<Integer> run() {\n"
            + "    java.util.List<Integer> answers = new java.util.ArrayList<>();\n");
        for (String line : run.split("\n")) {
            Matcher call = CALL.matcher(line);
            if (call.matches()) {
                calls.add(call.group(1));
                told.add(Checks.number(call.group(2)));
                program.append("answers.add(").append(call.group(1)).append(");\n");
            } else {
                if (line.startsWith("post.")) {
                    Checks.fail(README, "no answer is told of " + line);
                }
                program.append(line).append('\n');
            }
        }
        return program.append("    return answers;\n  }\n}\n").toString();
    }

    private static List<?> answers(Path place, String name, String program) throws IOException, ReflectiveOperationException {
        Path file = place.resolve(name + ".java");
        Files.writeString(file, program);
        String beside = System.getProperty("java.class.path");
        int compiled = ToolProvider.getSystemJavaCompiler().run(null, null, null, "-cp", beside, "-d", place.toString(), file.toString());
        if (compiled != 0) {
            return List.of();
        }
        try (URLClassLoader loader = new URLClassLoader(new URL[] {place.toUri().toURL()})) {
            return (List<?>) loader.loadClass(name).getMethod("run").invoke(null);
        }
    }

    private static void hold(Path place, String name, String run) throws IOException, ReflectiveOperationException {
        List<String> calls = new ArrayList<>();
        List<Integer> told = new ArrayList<>();
        String program = program(name, run, calls, told);
        List<?> answers = answers(place, name, program);
        Checks.due(README, "answers of " + name, answers.size(), told.size());
        for (int i = 0; i < told.size() && i < answers.size(); i++) {
            Checks.due(README, name + ": " + calls.get(i), (Integer) answers.get(i), told.get(i));
        }
    }

    private static void runs(String readme) throws IOException, ReflectiveOperationException {
        Path place = Files.createTempDirectory("readme");
        Matcher run = RUN.matcher(readme);
        int runs = 0;
        while (run.find()) {
            runs++;
            hold(place, "Run" + runs, run.group(1));
        }
        Checks.due(README, "has a run of calls", runs > 0 ? 1 : 0, 1);
        try (Stream<Path> files = Files.list(place)) {
            for (Path file : files.toList()) {
                Files.delete(file);
            }
        }
        Files.delete(place);
    }

    private static void testsNamed(String readme) throws IOException {
        Checks.due(README, "names .ci/run", readme.contains("\n.ci/run\n") ? 1 : 0, 1);
        try (Stream<Path> files = Files.list(Path.of(TESTS))) {
            for (Path file : files.toList()) {
                Checks.due(README, "names " + file, readme.contains(TESTS + "/" + file.getFileName()) ? 1 : 0, 1);
            }
        }
    }

    public static void main(String[] args) throws IOException, ReflectiveOperationException {
        String readme = Files.readString(Path.of(README));
        runs(readme);
        testsNamed(readme);
        Checks.finish("ReadmeTests");
    }
}
