import java.nio.file.Files;
import java.nio.file.Path;
import java.util.Set;
import java.util.TreeSet;
import java.util.regex.Matcher;
import java.util.regex.Pattern;

/** The example in README.md answers what stands beside it, and its table has each call; run in the project's folder. */
public final class ReadmeTest {
    private static final Pattern LINE = Pattern.compile("desk\\.(\\w+)\\(([-0-9, ]+)\\); +// (-?\\d+): .*");
    private static final int CALLS_OF_THE_FACE = 21;

    public static void main(String[] args) throws Exception {
        String text = Files.readString(Path.of("README.md"));
        Matcher block = Pattern.compile("(?s)```java\n(.*?)```").matcher(text);
        Due.holds("README.md has an example", block.find());
        SumMoved desk = new SumMoved();
        for (String line : block.group(1).split("\n")) {
            if (!line.isBlank() && !line.startsWith("SumMoved desk = ")) {
                answersAsItSays(desk, line);
            }
        }
        hasEachCall(text);
        Due.end();
    }

    private static void answersAsItSays(SumMoved desk, String line) {
        Matcher parts = LINE.matcher(line);
        Due.holds("a call and its answer: " + line, parts.matches());
        String[] texts = parts.group(2).split(", ");
        int[] numbers = new int[texts.length];
        for (int i = 0; i < texts.length; i++) {
            numbers[i] = Integer.parseInt(texts[i]);
        }
        Call call = Call.of(parts.group(1), numbers);
        Due.is("README.md: " + call, call.on(desk), Long.parseLong(parts.group(3)));
    }

    private static void hasEachCall(String text) {
        Set<String> told = new TreeSet<>();
        Matcher row = Pattern.compile("(?m)^\\| `(\\w+)\\(").matcher(text);
        while (row.find()) {
            told.add(row.group(1));
        }
        Due.is("calls that README.md tells of", told.size(), CALLS_OF_THE_FACE);
    }
}
