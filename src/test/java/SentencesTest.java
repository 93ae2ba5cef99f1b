import java.nio.charset.StandardCharsets;
import java.nio.file.Files;
import java.nio.file.Path;
import java.nio.file.Paths;
import java.util.ArrayList;
import java.util.Arrays;
import java.util.List;
import java.util.TreeMap;
import java.util.regex.Matcher;
import java.util.regex.Pattern;

/**
 * Holds the remarks of the tests of boundary cases (Bounds*Test) against the document: what a remark quotes stands there,
 * and no sentence of the terms and of the promises is left without a test whose remark quotes it.
 */
public final class SentencesTest {
    private static final int TERMS = 0;
    private static final Pattern REMARK = Pattern.compile(
            "/\\*\\*((?:(?!\\*/).)*)\\*/\\s*private static void (\\w+)\\(\\)", Pattern.DOTALL);
    private static final Pattern QUOTE = Pattern.compile("\"([^\"]*)\"");
    private static final Pattern PROMISE = Pattern.compile("Promise (\\d+):");

    private static final TreeMap<Integer, String> SECTIONS = new TreeMap<>();
    private static final TreeMap<Integer, boolean[]> QUOTED = new TreeMap<>();

    public static void main(String[] args) throws Exception {
        readDocument();
        for (Path file : tests()) {
            readTest(file);
        }
        for (int section : SECTIONS.keySet()) {
            lookForTheRest(section);
        }
        Calls.close();
    }

    private static String read(Path file) throws Exception {
        return new String(Files.readAllBytes(file), StandardCharsets.UTF_8);
    }

    private static List<Path> tests() throws Exception {
        List<Path> files = new ArrayList<>();
        try (var all = Files.newDirectoryStream(Paths.get("src/test/java"), "Bounds*Test.java")) {
            all.forEach(files::add);
        }
        files.sort(null);
        Calls.holds("there are tests of boundary cases", files.size() > 5);
        return files;
    }

    private static void readDocument() throws Exception {
        int section = -1;
        for (String line : read(Paths.get("../shared/DOC.md")).split("\n")) {
            Matcher promise = PROMISE.matcher(line);
            if (line.startsWith("#")) {
                section = line.equals("## Terms") ? TERMS : promise.find() ? Integer.parseInt(promise.group(1)) : -1;
            } else if (section > TERMS || (section == TERMS && !line.startsWith("```"))) {
                add(section, line.replaceFirst("^`.*?`: ", ""));
            } else if (line.startsWith("An object is used")) {
                add(TERMS, line);
            }
        }
        for (int number : SECTIONS.keySet()) {
            QUOTED.put(number, new boolean[SECTIONS.get(number).length()]);
        }
        Calls.due("the terms and the promises", SECTIONS.size(), 30);
    }

    private static void add(int section, String line) {
        String text = line.replaceAll("^==== I+\\. ", "");
        SECTIONS.merge(section, onOneLine(text), (was, more) -> onOneLine(was + " " + more));
    }

    private static String onOneLine(String text) {
        return text.replaceAll("\\s+", " ").trim();
    }

    private static void readTest(Path file) throws Exception {
        String code = read(file);
        Matcher remark = REMARK.matcher(code);
        while (remark.find()) {
            String text = onOneLine(remark.group(1).replaceAll("\n\\s*\\* ?", " "));
            String name = remark.group(2);
            Calls.holds(name + " is run", code.indexOf("        " + name + "();") >= 0);
            Matcher promise = PROMISE.matcher(text);
            int section = promise.find() ? Integer.parseInt(promise.group(1)) : TERMS;
            Matcher quote = QUOTE.matcher(text);
            boolean any = false;
            while (quote.find()) {
                any = true;
                Calls.holds(file.getFileName() + ", " + name + ": the document does not say \"" + quote.group(1) + "\" (once more)",
                        takes(section, quote.group(1)));
            }
            Calls.holds(name + " quotes the document", any);
        }
    }

    /** Each quote takes one place: a sentence that stands there twice wants two tests. */
    private static boolean takes(int section, String quote) {
        String text = SECTIONS.getOrDefault(section, "");
        boolean[] quoted = QUOTED.get(section);
        for (int at = text.indexOf(quote); at >= 0; at = text.indexOf(quote, at + 1)) {
            boolean free = false;
            for (int i = at; i < at + quote.length(); i++) {
                free |= !quoted[i];
            }
            if (free) {
                Arrays.fill(quoted, at, at + quote.length(), true);
                return true;
            }
        }
        return false;
    }

    private static void lookForTheRest(int section) {
        String text = SECTIONS.get(section);
        boolean[] quoted = QUOTED.get(section);
        StringBuilder rest = new StringBuilder();
        for (int i = 0; i <= text.length(); i++) {
            if (i < text.length() && !quoted[i]) {
                rest.append(text.charAt(i));
            } else if (rest.length() > 0) {
                Calls.holds("section " + section + ": no test tells \"" + rest + "\"", !rest.toString().matches(".*\\w.*"));
                rest.setLength(0);
            }
        }
    }
}
