import java.io.IOException;
import java.lang.reflect.Method;
import java.net.URL;
import java.net.URLClassLoader;
import java.nio.file.DirectoryStream;
import java.nio.file.Files;
import java.nio.file.Path;
import java.util.ArrayList;
import java.util.List;
import java.util.function.IntConsumer;
import java.util.regex.Matcher;
import java.util.regex.Pattern;
import javax.tools.JavaCompiler;
import javax.tools.ToolProvider;

/**
 * What README.md shows of the use of the class: each of its Java examples compiles as it stands there, and each call in
 * them answers the number that stands behind it.
 */
final class ReadmeTest {
    private static final Pattern EXAMPLE = Pattern.compile("(?s)```java\n(.*?)```");
    private static final Pattern ITEM = Pattern.compile("(?m)^\\| `([^`]*)` \\|");
    private static final Pattern CALL = Pattern.compile("(?s)(\\s*(?:x\\.\\w+|load)\\(.*\\));\\s*// (-?\\d+)(?:: .*)?");
    private static final String MADE = "SmokeControl x = new SmokeControl();";

    private final String page;
    private final StringBuilder program = new StringBuilder();
    private final List<String> calls = new ArrayList<>();
    private final List<Integer> shown = new ArrayList<>();
    private int examples;

    private ReadmeTest(String page) {
        this.page = page;
    }

    public static void main(String[] args) throws IOException, ReflectiveOperationException {
        ReadmeTest test = new ReadmeTest(Files.readString(Path.of("README.md")));
        test.writeProgram();
        test.compareAnswers();
        test.allCallsAreShown();
        test.itemsAreAText();
        test.allTestsAreNamed();
        Check.end();
    }

    private static void must(String what, boolean holds) {
        Check.due("README.md: " + what, holds ? 1 : 0, 1);
    }

    /** Each example stands in the program twice: as it is shown, and with its answers given to the test. */
    private void writeProgram() {
        program.append("public final class Shown {\n");
        StringBuilder all = new StringBuilder();
        Matcher found = EXAMPLE.matcher(page);
        while (found.find()) {
            String example = found.group(1);
            if (example.startsWith("static ")) {
                program.append(example);
            } else {
                examples++;
                program.append("static void shown").append(examples).append("() {\n").append(example).append("}\n");
                program.append("static void told").append(examples).append("(java.util.function.IntConsumer told) {\n");
                tellAnswers(example);
                program.append("}\n");
                all.append("shown").append(examples).append("();\n");
                all.append("told").append(examples).append("(told);\n");
            }
        }
        program.append("public static void run(java.util.function.IntConsumer told) {\n").append(all).append("}\n}\n");
        must("there are examples", examples > 0);
    }

    private void tellAnswers(String example) {
        StringBuilder statement = new StringBuilder();
        for (String line : example.split("\n")) {
            statement.append(line);
            if (!line.replaceAll("\\s*//.*", "").endsWith(";")) {
                continue;
            }
            Matcher call = CALL.matcher(statement);
            if (call.matches()) {
                program.append("told.accept(").append(call.group(1)).append(");\n");
                calls.add(call.group(1));
                shown.add(Integer.valueOf(call.group(2)));
            } else {
                must("\"" + statement + "\" shows its answer", statement.toString().equals(MADE));
                program.append(statement).append('\n');
            }
            statement.setLength(0);
        }
        must("the example is whole", statement.isEmpty());
    }

    private void compareAnswers() throws IOException, ReflectiveOperationException {
        Path place = Files.createTempDirectory("readme");
        Path source = place.resolve("Shown.java");
        Path made = place.resolve("Shown.class");
        try {
            Files.writeString(source, program);
            JavaCompiler compiler = ToolProvider.getSystemJavaCompiler();
            int failed = compiler.run(null, null, null, "-Xlint:all", "-Werror", "-cp",
                System.getProperty("java.class.path"), "-d", place.toString(), source.toString());
            must("the examples compile", failed == 0);
            if (failed == 0) {
                compare(place);
            }
        } finally {
            Files.deleteIfExists(source);
            Files.deleteIfExists(made);
            Files.deleteIfExists(place);
        }
    }

    private void compare(Path place) throws IOException, ReflectiveOperationException {
        List<Integer> answers = new ArrayList<>();
        IntConsumer told = answers::add;
        try (URLClassLoader loader = new URLClassLoader(new URL[] {place.toUri().toURL()})) {
            loader.loadClass("Shown").getMethod("run", IntConsumer.class).invoke(null, told);
        }
        Check.due("README.md: the number of answers", answers.size(), shown.size());
        for (int i = 0; i < answers.size() && i < shown.size(); i++) {
            Check.due("README.md: " + calls.get(i), answers.get(i), shown.get(i));
        }
    }

    private void allCallsAreShown() {
        for (Method m : SmokeControl.class.getMethods()) {
            if (m.getDeclaringClass() == SmokeControl.class) {
                must(m.getName() + " is among the examples", page.contains("x." + m.getName() + "("));
            }
        }
    }

    /** The items of the table, one behind the other, are a text without an error. */
    private void itemsAreAText() {
        StringBuilder text = new StringBuilder();
        int items = 0;
        Matcher item = ITEM.matcher(page);
        while (item.find()) {
            text.append(item.group(1)).append(";\n");
            items++;
        }
        must("there are items in the table", items > 0);
        Check.sound(text.toString(), items);
    }

    private void allTestsAreNamed() throws IOException {
        int named = 0;
        try (DirectoryStream<Path> files = Files.newDirectoryStream(Path.of("src/test/java"), "*Test.java")) {
            for (Path file : files) {
                String name = file.getFileName().toString().replace(".java", "");
                must(name + " is named", page.contains("`" + name + "`"));
                named++;
            }
        }
        must("there are tests", named > 0);
    }
}
