import java.io.IOException;
import java.lang.reflect.Field;
import java.lang.reflect.Method;
import java.lang.reflect.Modifier;
import java.net.URL;
import java.net.URLClassLoader;
import java.nio.file.Files;
import java.nio.file.Path;
import java.util.ArrayList;
import java.util.Comparator;
import java.util.List;
import java.util.regex.Matcher;
import java.util.regex.Pattern;
import java.util.stream.Stream;
import javax.tools.ToolProvider;

/** What README.md says: its example does what it shows, and it names every call, result and test. */
public final class ReadmeTest {
    private static final Path README = Path.of("README.md");
    private static final Path TESTS = Path.of("src/test/java");
    private static final Pattern ANSWER = Pattern.compile("(world\\..*\\));\\s*// -> (-?\\w+).*");

    public static void main(String[] args) throws IOException, ReflectiveOperationException {
        Due due = new Due();
        String text = Files.readString(README);
        example(due, text);
        face(due, text);
        tests(due, text);
        theCommand(due, text);
        due.end();
    }

    private static String block(String text, String language) {
        Matcher matcher = Pattern.compile("```" + language + "\n(.*?)```", Pattern.DOTALL).matcher(text);
        return matcher.find() ? matcher.group(1) : "";
    }

    private static void example(Due due, String text) throws IOException, ReflectiveOperationException {
        StringBuilder program = new StringBuilder("public final class ReadmeExample {\n"
                + "    public static void run(java.util.List<Object> answers) {\n");
        List<String> calls = new ArrayList<>();
        List<String> shown = new ArrayList<>();
        for (String line : block(text, "java").split("\n")) {
            Matcher answer = ANSWER.matcher(line);
            if (answer.matches()) {
                calls.add(answer.group(1));
                shown.add(answer.group(2));
                program.append("answers.add(").append(answer.group(1)).append(");\n");
            } else {
                program.append(line).append("\n");
            }
        }
        List<Object> answers = run(program.append("    }\n}\n").toString());
        due.yes("the example shows answers", !shown.isEmpty());
        due.is("answers of the example", shown.size(), answers.size());
        for (int i = 0; i < answers.size(); i++) {
            due.yes(calls.get(i) + " answered " + answers.get(i) + ", README.md shows " + shown.get(i) + ":",
                    value(shown.get(i)).equals(answers.get(i)));
        }
    }

    /** A constant's value for its name, else what the word says itself. */
    private static Object value(String shown) throws ReflectiveOperationException {
        if (shown.equals("true") || shown.equals("false")) {
            return Boolean.valueOf(shown);
        }
        boolean isName = Character.isUpperCase(shown.charAt(0));
        return isName ? StoryWorld.class.getField(shown).get(null) : Integer.valueOf(shown);
    }

    /** Compiles the example and runs it; no answers if it does not compile. */
    private static List<Object> run(String program) throws IOException, ReflectiveOperationException {
        Path directory = Files.createTempDirectory("readme");
        List<Object> answers = new ArrayList<>();
        try {
            Path source = Files.writeString(directory.resolve("ReadmeExample.java"), program);
            int code = ToolProvider.getSystemJavaCompiler().run(null, null, null, "-cp",
                    System.getProperty("java.class.path"), "-d", directory.toString(), source.toString());
            if (code == 0) {
                try (URLClassLoader loader = new URLClassLoader(new URL[] {directory.toUri().toURL()})) {
                    loader.loadClass("ReadmeExample").getMethod("run", List.class).invoke(null, answers);
                }
            }
        } finally {
            delete(directory);
        }
        return answers;
    }

    private static void delete(Path directory) throws IOException {
        try (Stream<Path> paths = Files.walk(directory)) {
            for (Path path : paths.sorted(Comparator.reverseOrder()).toList()) {
                Files.delete(path);
            }
        }
    }

    private static void face(Due due, String text) {
        for (Method method : StoryWorld.class.getDeclaredMethods()) {
            if (Modifier.isPublic(method.getModifiers())) {
                String parameters = ", \\w+".repeat(method.getParameterCount()).replaceFirst(", ", "");
                String call = "`" + method.getName() + "\\(" + parameters + "\\)`";
                due.yes(method.getName() + " is told", Pattern.compile(call).matcher(text).find());
            }
        }
        for (Field field : StoryWorld.class.getDeclaredFields()) {
            if (Modifier.isPublic(field.getModifiers())) {
                due.yes(field.getName() + " is told", text.contains("`" + field.getName() + "`"));
            }
        }
    }

    private static void tests(Due due, String text) throws IOException {
        try (Stream<Path> files = Files.list(TESTS)) {
            for (Path file : files.sorted().toList()) {
                String name = file.getFileName().toString().replace(".java", "");
                // The promises' tests are told as a range.
                if (name.endsWith("Test") && !name.startsWith("Promise")) {
                    due.yes(name + " is told", text.contains("`" + name + "`"));
                }
            }
        }
        Matcher told = Pattern.compile("\\b[A-Z]\\w+Test\\b").matcher(text);
        while (told.find()) {
            due.yes(told.group() + " is there", Files.exists(TESTS.resolve(told.group() + ".java")));
        }
    }

    private static void theCommand(Due due, String text) {
        Path command = Path.of(block(text, "sh").trim());
        due.yes("the tests are run by .ci/run", command.equals(Path.of(".ci/run")));
        due.yes("it is there, and executable", Files.isExecutable(command));
    }
}
