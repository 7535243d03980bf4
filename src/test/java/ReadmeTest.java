import java.io.ByteArrayOutputStream;
import java.io.IOException;
import java.io.PrintStream;
import java.net.URL;
import java.net.URLClassLoader;
import java.nio.charset.StandardCharsets;
import java.nio.file.Files;
import java.nio.file.Path;
import java.util.ArrayList;
import java.util.Comparator;
import java.util.List;
import java.util.regex.Matcher;
import java.util.regex.Pattern;
import java.util.stream.Stream;
import javax.tools.JavaCompiler;
import javax.tools.ToolProvider;

/** README.md: its examples answer as it says, and it names what is there; it runs in the project's folder. */
public final class ReadmeTest {
    private static final Path PAGE = Path.of("README.md");
    private static final Path TESTS = Path.of("src", "test", "java");
    private static final Pattern BLOCK = Pattern.compile("(?ms)^```(\\w+)\n(.*?)^```$");
    private static final Pattern ANSWER = Pattern.compile("(cats\\.\\w+\\(.*\\));\\s+// (-?\\d+|[A-Z]+)(?:,.*)?");

    public static void main(String[] args) throws Exception {
        String page = Files.readString(PAGE, StandardCharsets.UTF_8);
        List<String> examples = blocks(page, "java");
        List<String> printed = blocks(page, "text");
        Due.is("programs and what they print", printed.size(), 1);
        Path folder = Files.createTempDirectory("readme");
        try {
            theProgram(folder, examples.get(0), printed.get(0));
            theExamples(folder, examples.subList(1, examples.size()));
        } finally {
            remove(folder);
        }
        testsAreNamed(page);
        Due.end();
    }

    private static List<String> blocks(String page, String kind) {
        List<String> found = new ArrayList<>();
        Matcher block = BLOCK.matcher(page);
        while (block.find()) {
            if (block.group(1).equals(kind)) {
                found.add(block.group(2));
            }
        }
        return found;
    }

    private static void theProgram(Path folder, String source, String printed) throws Exception {
        ByteArrayOutputStream bytes = new ByteArrayOutputStream();
        PrintStream screen = System.out;
        try (URLClassLoader made = compiled(folder, "Crossing", source)) {
            System.setOut(new PrintStream(bytes, true, StandardCharsets.UTF_8));
            run(made, "Crossing");
        } finally {
            System.setOut(screen);
        }
        String lines = bytes.toString(StandardCharsets.UTF_8).replace(System.lineSeparator(), "\n");
        Due.isText("what the program prints", lines, printed);
    }

    /** Each example has an object of its own; a line that has no answer behind it is left as it is. */
    private static void theExamples(Path folder, List<String> examples) throws Exception {
        StringBuilder body = new StringBuilder();
        int answers = 0;
        for (String example : examples) {
            body.append("{\n");
            for (String line : example.split("\n")) {
                Matcher answer = ANSWER.matcher(line);
                boolean told = answer.matches();
                body.append(told ? due(answer) : line).append('\n');
                answers += told ? 1 : 0;
                boolean plain = line.startsWith("type(cats, ") || line.equals("NineCats cats = new NineCats();");
                Due.is("an answer in '" + line + "'", told || plain ? 1 : 0, 1);
            }
            body.append("}\n");
        }
        Due.is("answers in the examples", answers > 0 ? 1 : 0, 1);
        String source = "public final class Examples {\nstatic String wrong = \"\";\n"
            + "public static void main(String[] args) {\n" + body + "if (!wrong.isEmpty()) { throw new IllegalStateException(wrong); }\n}\n"
            + "static void type(NineCats cats, String text) { Crossing.type(cats, text); }\n"
            + "static void due(String call, long got, long want) {\n"
            + "if (got != want) { wrong += call + \" answered \" + got + \", README.md says \" + want + \"; \"; }\n}\n}\n";
        try (URLClassLoader made = compiled(folder, "Examples", source)) {
            run(made, "Examples");
        }
    }

    private static String due(Matcher answer) {
        String want = answer.group(2);
        boolean named = Character.isUpperCase(want.charAt(0));
        return "due(\"" + answer.group(1).replace("\"", "\\\"") + "\", " + answer.group(1) + ", " + (named ? "NineCats." : "") + want + ");";
    }

    private static URLClassLoader compiled(Path folder, String name, String source) throws IOException {
        Path file = folder.resolve(name + ".java");
        Files.writeString(file, source, StandardCharsets.UTF_8);
        JavaCompiler compiler = ToolProvider.getSystemJavaCompiler();
        String path = System.getProperty("java.class.path") + java.io.File.pathSeparator + folder;
        int failed = compiler == null ? 1 : compiler.run(null, null, null, "-encoding", "UTF-8", "-cp", path, "-d", folder.toString(), file.toString());
        Due.is("compiling " + name + " of README.md", failed, 0);
        return new URLClassLoader(new URL[] {folder.toUri().toURL()}, ReadmeTest.class.getClassLoader());
    }

    private static void run(URLClassLoader made, String name) throws Exception {
        try {
            made.loadClass(name).getMethod("main", String[].class).invoke(null, (Object) new String[0]);
        } catch (ReflectiveOperationException e) {
            String why = e.getCause() == null ? e.toString() : e.getCause().getMessage();
            Due.isText(name + " of README.md", String.valueOf(why), "");
        }
    }

    private static void remove(Path folder) throws IOException {
        try (Stream<Path> all = Files.walk(folder)) {
            for (Path one : all.sorted(Comparator.reverseOrder()).toList()) {
                Files.delete(one);
            }
        }
    }

    private static void testsAreNamed(String page) throws IOException {
        try (Stream<Path> all = Files.list(TESTS)) {
            for (Path one : all.toList()) {
                String name = one.getFileName().toString().replace(".java", "");
                Due.is("README.md names " + name, page.contains("`" + name + "`") ? 1 : 0, 1);
            }
        }
        Matcher names = Pattern.compile("`(\\w+Test)`").matcher(page);
        while (names.find()) {
            Due.is("there is a " + names.group(1), Files.exists(TESTS.resolve(names.group(1) + ".java")) ? 1 : 0, 1);
        }
    }
}
