import java.io.ByteArrayOutputStream;
import java.io.PrintStream;
import java.nio.charset.StandardCharsets;
import java.nio.file.Files;
import java.nio.file.Path;
import java.util.ArrayList;
import java.util.Collections;
import java.util.List;
import java.util.regex.Matcher;
import java.util.regex.Pattern;

/** The calls that README.md shows stand in Example, and Example answers what is written behind them. */
public final class ReadmeTest {
    private static final Pattern SHOWN = Pattern.compile("show\\(.*\\);\\s+// (.*)");
    private static final Pattern BLOCK = Pattern.compile("^```java$(.*?)^```$", Pattern.DOTALL | Pattern.MULTILINE);

    private ReadmeTest() {
    }

    public static void main(String[] args) throws Exception {
        List<String> example = lines(Files.readString(Path.of("src/example/java/Example.java")));
        Expect.same("answers of Example", written(example), printed());
        List<List<String>> blocks = blocks(Files.readString(Path.of("README.md")));
        List<String> shown = new ArrayList<>();
        for (List<String> block : blocks) {
            Expect.same("Example has " + block, true, Collections.indexOfSubList(example, block) >= 0);
            shown.addAll(written(block));
        }
        List<String> sorted = new ArrayList<>(written(example));
        Collections.sort(sorted);
        Collections.sort(shown);
        Expect.same("README.md shows all of Example", sorted, shown);
        Expect.finish("ReadmeTest");
    }

    private static List<String> lines(String text) {
        return text.lines().map(String::strip).filter(line -> !line.isEmpty()).toList();
    }

    private static List<List<String>> blocks(String text) {
        List<List<String>> blocks = new ArrayList<>();
        Matcher matcher = BLOCK.matcher(text);
        while (matcher.find()) {
            blocks.add(lines(matcher.group(1)));
        }
        return blocks;
    }

    /** The answers that stand behind calls. */
    private static List<String> written(List<String> lines) {
        List<String> answers = new ArrayList<>();
        for (String line : lines) {
            Matcher matcher = SHOWN.matcher(line);
            if (matcher.matches()) {
                answers.add(matcher.group(1));
            }
        }
        return answers;
    }

    private static List<String> printed() {
        ByteArrayOutputStream bytes = new ByteArrayOutputStream();
        PrintStream before = System.out;
        System.setOut(new PrintStream(bytes, true, StandardCharsets.UTF_8));
        Example.main(new String[0]);
        System.setOut(before);
        return bytes.toString(StandardCharsets.UTF_8).lines().toList();
    }
}
