import java.nio.file.Files;
import java.nio.file.Path;
import java.util.ArrayList;
import java.util.HashSet;
import java.util.LinkedHashMap;
import java.util.List;
import java.util.Map;
import java.util.Set;

/** The sentences of the document, section by section, and which of them a test holds. */
final class Sentences {
    // What only names a thing: topics, and parameters without a bound.
    private static final Set<String> NAMES = Set.of(
        "Vectors.", "Versions.", "Nodes.", "Path copying.", "Garbage.", "Setup text.", "Script text.", "Tokens.",
        "Text errors.", "Changes.", "Execution of scripts.",
        "`version`: number of the version", "`node`: number of the node");
    private static final Set<String> SECTIONS_WITHOUT_TESTS = Set.of("VectorVersions", "The public face", "Not promised");

    private final Map<String, List<String>> sections = new LinkedHashMap<>();
    private final Set<String> held = new HashSet<>();

    Sentences() throws Exception {
        String section = "";
        for (String line : Files.readAllLines(Path.of("../shared/DOC.md"))) {
            String text = line.strip();
            if (text.startsWith("#")) {
                section = text.replaceAll("^#+ ", "").replaceAll(":.*", "");
                sections.put(section, new ArrayList<>());
            } else if (!text.isEmpty() && !text.startsWith("```")) {
                sections.get(section).addAll(split(text, section));
            }
        }
    }

    private static List<String> split(String line, String section) {
        String text = line.startsWith("- ") ? line.substring(2) : line;
        if (section.startsWith("Promise")) {
            text = text.replaceFirst("^`[^`]*\\([^`]*`: ", "");
        }
        return List.of(text.split("(?<=\\.) (?=[A-Z])"));
    }

    /** Runs the test of one sentence, which must stand in its section just so. */
    void hold(String section, String sentence, Runnable test) {
        Expect.begin(section + ", \"" + sentence + "\" ");
        boolean stands = sections.containsKey(section) && sections.get(section).contains(sentence);
        Expect.same("stands in the document", true, stands);
        Expect.same("is held once", true, held.add(section + sentence));
        int before = Expect.checks();
        try {
            test.run();
        } catch (RuntimeException e) {
            Expect.same("goes through", "no exception", e.toString());
        }
        Expect.same("is checked", true, Expect.checks() > before);
        Expect.begin("");
    }

    void expectAllHeld() {
        for (String section : sections.keySet()) {
            for (String sentence : sections.get(section)) {
                boolean left = NAMES.contains(sentence) || SECTIONS_WITHOUT_TESTS.contains(section);
                Expect.same(section + ", \"" + sentence + "\" has a test", !left, held.contains(section + sentence));
            }
        }
    }
}
