import java.io.IOException;
import java.nio.file.Files;
import java.nio.file.Path;
import java.util.ArrayList;
import java.util.HashSet;
import java.util.LinkedHashMap;
import java.util.List;
import java.util.Map;
import java.util.Set;

/** The sentences of the document, and which of them have been tested. */
final class Sentences {
    private static final Path DOCUMENT = Path.of("../shared/DOC.md");
    private static final List<String> TERMS = List.of("Days", "Thresholds and zones", "Sessions", "Fitness, fatigue and form",
            "Records", "Plan", "Undo", "Exceptions");

    private final Map<String, List<String>> linesOfSections = new LinkedHashMap<>();
    private final Set<String> tested = new HashSet<>();

    Sentences() throws IOException {
        List<String> lines = new ArrayList<>();
        for (String line : Files.readAllLines(DOCUMENT)) {
            if (line.startsWith("## ")) {
                lines = new ArrayList<>();
                linesOfSections.put(line.substring(3).replaceAll("^(Promise \\d+):.*", "$1"), lines);
            } else {
                lines.add(line);
            }
        }
        for (String title : TERMS) {
            linesOfSections.put(title, sentencesOfTerm(title));
        }
    }

    private List<String> sentencesOfTerm(String title) {
        for (String line : linesOfSections.get("Terms")) {
            if (line.startsWith(title + ". ")) {
                return List.of(line.substring(title.length() + 2).split("(?<=\\.) "));
            }
        }
        return List.of();
    }

    /** Notes that a sentence is tested; answers whether it stands in a line of the section. */
    boolean note(String section, String sentence) {
        tested.add(section + ": " + sentence);
        return linesOfSections.getOrDefault(section, List.of()).stream().anyMatch(line -> line.contains(sentence));
    }

    /** The sentences of the terms, and the promised parameters and exceptions, that have no test. */
    List<String> untested() {
        List<String> untested = new ArrayList<>();
        linesOfSections.forEach((section, lines) -> {
            for (String line : lines) {
                boolean needed = TERMS.contains(section) || line.startsWith("- `") || line.startsWith("Throws ");
                if (needed && !tested.contains(section + ": " + line)) {
                    untested.add(section + ": " + line);
                }
            }
        });
        return untested;
    }
}
