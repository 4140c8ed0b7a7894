import java.lang.reflect.Field;
import java.lang.reflect.Method;
import java.lang.reflect.Modifier;
import java.nio.file.Files;
import java.nio.file.Path;
import java.util.Set;
import java.util.regex.Matcher;
import java.util.regex.Pattern;

/** What can be seen of LANGUAGE.md's rules in the class and its text; run in the project's folder. */
public final class LanguageTest {
    private static final String[] BARRED = {"\\b(throw|throws|try|catch|finally|synchronized|assert|import|package)\\b",
        "->", "::", "\\w+Exact\\b", "\\bprotected\\b", "\\bstatic\\s*\\{", "\\bnew\\s+Object\\b", "\\bSystem\\.(?!arraycopy)"};

    private static final Set<Class<?>> CONSTANTS = Set.of(int.class, long.class, int[].class);

    public static void main(String[] args) throws Exception {
        String text = Files.readString(Path.of("src/main/java/SumMoved.java"));
        Due.holds("only signs 1 to 127", text.chars().allMatch(c -> c > 0 && c < 128));
        String code = text.replaceAll("(?s)/\\*.*?\\*/", "").replaceAll("//[^\n]*", "");
        for (String barred : BARRED) {
            Matcher found = Pattern.compile(barred).matcher(code);
            Due.holds("no " + barred + " in the class", !found.find());
        }
        noMoreThanSixtyLines(code);
        noObjectsButInConstructors(code);
        Class<?>[] inside = SumMoved.class.getDeclaredClasses();
        Due.holds("at most twelve classes", inside.length < 12);
        staysSmall(SumMoved.class);
        for (Class<?> one : inside) {
            staysSmall(one);
        }
        Due.end();
    }

    private static void staysSmall(Class<?> one) {
        int fields = 0;
        for (Field f : one.getDeclaredFields()) {
            if (Modifier.isStatic(f.getModifiers())) {
                Due.holds(f + " is a constant of numbers", Modifier.isFinal(f.getModifiers())
                        && CONSTANTS.contains(f.getType()));
            } else {
                fields++;
            }
        }
        Due.holds(one + " has at most twenty fields", fields <= 20);
        for (Method m : one.getDeclaredMethods()) {
            Due.holds(m + " takes at most seven", m.getParameterCount() <= 7);
        }
    }

    private static void noMoreThanSixtyLines(String code) {
        Pattern head = Pattern.compile("( +)(?!if|for|while|switch|else)[\\w\\[\\] ]+\\([^()]*\\) \\{");
        String indent = null;
        int begun = 0, at = 0, methods = 0;
        for (String line : code.split("\n")) {
            at++;
            Matcher m = head.matcher(line);
            if (indent == null && m.matches()) {
                indent = m.group(1);
                begun = at;
                methods++;
            } else if (indent != null && line.equals(indent + "}")) {
                Due.holds("at most 60 lines in the method before line " + at, at - begun < 60);
                indent = null;
            }
        }
        Due.holds("methods were found", methods > 21);
    }

    /** All calls of a run live in one room, so calls make nothing. */
    private static void noObjectsButInConstructors(String code) {
        Pattern kept = Pattern.compile(" +\\w+ = new (\\w+\\[(MOST_\\w+|FACTORS)\\]|\\w+\\((rows)?\\));");
        for (String line : code.split("\n")) {
            if (line.contains("new ")) {
                Due.holds("made in a constructor: " + line.trim(), kept.matcher(line).matches());
            }
        }
    }
}
