import java.lang.reflect.Constructor;
import java.lang.reflect.Field;
import java.lang.reflect.Method;
import java.lang.reflect.Modifier;
import java.nio.charset.StandardCharsets;
import java.nio.file.Files;
import java.nio.file.Paths;
import java.util.ArrayList;
import java.util.Arrays;
import java.util.HashSet;
import java.util.List;
import java.util.Set;
import java.util.regex.Matcher;
import java.util.regex.Pattern;

/** What of LANGUAGE.md can be seen from outside or from the text: the face, the words, the sizes. */
public final class LanguageTest {
    private static final List<String> FACE = Arrays.asList("feed", "end", "town", "rule", "force", "person", "trial", "can",
            "right", "day", "hear", "teach", "undo", "soonest", "benches", "down", "commit", "above", "lesson", "clement",
            "fact", "who", "look", "seed", "years", "count", "image", "back");

    public static void main(String[] args) throws Exception {
        face();
        classes();
        words();
        sizes();
        Calls.close();
    }

    private static void face() {
        Set<String> names = new HashSet<>();
        Calls.holds("final", Modifier.isFinal(YoungerBench.class.getModifiers()));
        for (Method m : YoungerBench.class.getDeclaredMethods()) {
            boolean isFace = Modifier.isPublic(m.getModifiers());
            Calls.holds(m.getName() + " is of the face or private", isFace || Modifier.isPrivate(m.getModifiers()));
            Calls.holds(m.getName() + " bears its own name", FACE.contains(m.getName()) == isFace);
            Calls.holds(m.getName() + " has seven parameters at most", m.getParameterCount() <= 7);
            if (isFace) {
                Calls.holds(m.getName() + " answers int", m.getReturnType() == int.class);
                names.add(m.getName());
            }
        }
        Calls.due("methods of the face", names.size(), FACE.size());
        for (Field f : YoungerBench.class.getDeclaredFields()) {
            boolean isNone = f.getName().equals("NONE");
            Calls.holds(f.getName(), isNone ? Modifier.isPublic(f.getModifiers()) : Modifier.isPrivate(f.getModifiers()));
        }
        Constructor<?>[] made = YoungerBench.class.getDeclaredConstructors();
        Calls.holds("one constructor", made.length == 1 && Modifier.isPublic(made[0].getModifiers()));
    }

    private static void classes() {
        List<Class<?>> all = new ArrayList<>(Arrays.asList(YoungerBench.class.getDeclaredClasses()));
        Calls.holds("twelve classes at most", all.size() + 1 <= 12);
        all.add(YoungerBench.class);
        for (Class<?> c : all) {
            int fields = 0;
            for (Field f : c.getDeclaredFields()) {
                boolean isStatic = Modifier.isStatic(f.getModifiers());
                Calls.holds(f.getName() + " is final", !isStatic || Modifier.isFinal(f.getModifiers()));
                fields += isStatic ? 0 : 1;
            }
            Calls.holds(c.getSimpleName() + " has twenty fields at most", fields <= 20);
            Calls.holds(c.getSimpleName() + " is static", c == YoungerBench.class || Modifier.isStatic(c.getModifiers()));
            for (Method m : c.getDeclaredMethods()) {
                Calls.holds(m.getName() + " has seven parameters at most", m.getParameterCount() <= 7);
                Calls.holds(c.getSimpleName() + "." + m.getName() + " is none of the face",
                        c == YoungerBench.class || !FACE.contains(m.getName()));
            }
        }
    }

    private static String source() throws Exception {
        return new String(Files.readAllBytes(Paths.get("src/main/java/YoungerBench.java")), StandardCharsets.ISO_8859_1);
    }

    private static void words() throws Exception {
        String code = source().replaceAll("(?s)/\\*.*?\\*/", "").replaceAll("//[^\n]*", "").replaceAll("\"[^\"]*\"", "\"\"");
        String[] forbidden = {"throw", "try", "catch", "finally", "synchronized", "assert", "throws", "package", "->", "::",
            "volatile", "transient", "native", "Object", "Exception", "System.out", "Random", "Thread", "var", "Exact",
            "instanceof", "toString", "hashCode", "goto", "String.valueOf", "Scanner"};
        for (String word : forbidden) {
            String edge = Character.isLetter(word.charAt(0)) ? "\\b" : "";
            Calls.holds("without " + word, !Pattern.compile(edge + Pattern.quote(word) + edge).matcher(code).find());
        }
        Calls.holds("no texts are joined by +", !Pattern.compile("\"\\s*\\+|\\+\\s*\"").matcher(code).find());
        Matcher imports = Pattern.compile("import ([^;]*);").matcher(code);
        while (imports.find()) {
            Calls.holds("import " + imports.group(1), imports.group(1).equals("java.util.Arrays"));
        }
        for (char c : source().toCharArray()) {
            if (c > 126) {
                Calls.holds("signs up to 126 alone", false);
            }
        }
    }

    private static void sizes() throws Exception {
        Pattern head = Pattern.compile("^( +)(?:public |private |static |final )*[\\w\\[\\]]+ ?\\w*\\(.*\\) \\{$");
        String[] lines = source().split("\n");
        int methods = 0;
        for (int i = 0; i < lines.length; i++) {
            Matcher m = head.matcher(lines[i]);
            if (m.find() && (m.group(1).length() == 4 || m.group(1).length() == 8)) {
                int end = i;
                while (end < lines.length && !lines[end].equals(m.group(1) + "}")) {
                    end++;
                }
                if (!lines[i].trim().startsWith("if") && !lines[i].trim().startsWith("for")
                        && !lines[i].trim().startsWith("switch") && !lines[i].trim().startsWith("while")) {
                    methods++;
                    Calls.holds(lines[i].trim() + " has sixty lines at most", end - i + 1 <= 60);
                }
            }
            Calls.holds("line " + (i + 1) + " is not too long", lines[i].length() <= 150);
        }
        Calls.holds("methods were found", methods > 100);
    }
}
