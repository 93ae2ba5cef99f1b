import java.net.URL;
import java.net.URLClassLoader;
import java.nio.charset.StandardCharsets;
import java.nio.file.Files;
import java.nio.file.Path;
import java.nio.file.Paths;
import java.util.ArrayList;
import java.util.Comparator;
import java.util.List;
import java.util.regex.Matcher;
import java.util.regex.Pattern;
import java.util.stream.Stream;
import javax.tools.ToolProvider;

/** Holds README.md against the class: its example is compiled and run, and it leaves out no call and no test. */
public final class ReadmeTest {
    private static final Pattern PIECE = Pattern.compile("```java\n(.*?)```", Pattern.DOTALL);
    private static final Pattern FACE = Pattern.compile("public int (\\w+\\([^)]*\\));");
    private static final Pattern TOLD = Pattern.compile("(?s)(.*);\\s*// (-?\\d+).*");

    public static void main(String[] args) throws Exception {
        String page = read(Paths.get("README.md"));
        namesAllCalls(page);
        namesAllTests(page);
        exampleHolds(page);
        Calls.close();
    }

    private static String read(Path file) throws Exception {
        return new String(Files.readAllBytes(file), StandardCharsets.UTF_8);
    }

    private static void namesAllCalls(String page) throws Exception {
        Matcher call = FACE.matcher(read(Paths.get("../shared/DOC.md")));
        int calls = 0;
        while (call.find()) {
            String shown = call.group(1).replace("int ", "");
            Calls.holds("README.md tells of " + shown, page.contains("\n| `" + shown + "` |"));
            calls++;
        }
        Calls.due("calls of the document's face", calls, 28);
    }

    private static void namesAllTests(String page) throws Exception {
        try (var files = Files.newDirectoryStream(Paths.get("src/test/java"), "*.java")) {
            for (Path file : files) {
                String name = file.getFileName().toString().replace(".java", "");
                Calls.holds("README.md tells of " + name, page.contains("`" + name + "`"));
            }
        }
        Matcher named = Pattern.compile("`(\\w+Test)`").matcher(page);
        while (named.find()) {
            Path file = Paths.get("src/test/java", named.group(1) + ".java");
            Calls.holds("README.md tells of " + file + ", which is not there", Files.exists(file));
        }
    }

    /** The first piece is a method, the second one statements, most with what they answer behind them. */
    private static void exampleHolds(String page) throws Exception {
        List<String> pieces = new ArrayList<>();
        Matcher piece = PIECE.matcher(page);
        while (piece.find()) {
            pieces.add(piece.group(1));
        }
        Calls.due("pieces of Java in README.md", pieces.size(), 2);
        if (pieces.size() == 2) {
            run("public final class Example {\n" + pieces.get(0) + "public static void run() {\n" + asked(pieces.get(1)) + "}\n"
                    + "static void due(String call, int got, int want) {\n"
                    + "if (got != want) throw new IllegalStateException(call + \" answered \" + got + \", README.md tells \" + want);\n"
                    + "}\n}\n");
        }
    }

    private static String asked(String statements) {
        StringBuilder code = new StringBuilder();
        StringBuilder statement = new StringBuilder();
        int told = 0;
        for (String line : statements.split("\n")) {
            statement.append(line).append('\n');
            Matcher answer = TOLD.matcher(statement);
            if (answer.matches()) {
                String call = answer.group(1).trim();
                String shown = call.replace("\\", "\\\\").replace("\"", "\\\"").replaceAll("\\s+", " ");
                code.append("due(\"").append(shown).append("\", ").append(call).append(", ").append(answer.group(2)).append(");\n");
                statement.setLength(0);
                told++;
            } else if (line.endsWith(";")) {
                code.append(statement);
                statement.setLength(0);
            }
        }
        Calls.holds("README.md tells what " + told + " calls answer", told > 20);
        return code.append(statement).toString();
    }

    private static void run(String code) throws Exception {
        Path made = Files.createTempDirectory("readme");
        try {
            Path file = made.resolve("Example.java");
            Files.write(file, code.getBytes(StandardCharsets.UTF_8));
            String classes = Paths.get(YoungerBench.class.getProtectionDomain().getCodeSource().getLocation().toURI()).toString();
            int failed = ToolProvider.getSystemJavaCompiler().run(null, null, null, "-cp", classes, "-d", made.toString(),
                    file.toString());
            Calls.due("javac of README.md's example", failed, 0);
            if (failed == 0) {
                callExample(made);
            }
        } finally {
            try (Stream<Path> all = Files.walk(made)) {
                all.sorted(Comparator.reverseOrder()).forEach(path -> path.toFile().delete());
            }
        }
    }

    private static void callExample(Path made) throws Exception {
        try (URLClassLoader loader = new URLClassLoader(new URL[] {made.toUri().toURL()})) {
            loader.loadClass("Example").getMethod("run").invoke(null);
            Calls.holds("README.md's example", true);
        } catch (java.lang.reflect.InvocationTargetException wrong) {
            Calls.holds(String.valueOf(wrong.getCause().getMessage()), false);
        }
    }
}
