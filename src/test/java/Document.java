import java.io.IOException;
import java.nio.file.Files;
import java.nio.file.Path;
import java.util.ArrayList;
import java.util.LinkedHashMap;
import java.util.List;
import java.util.Map;
import java.util.regex.Pattern;

/** The document by sections, and which of its words a test is about. */
final class Document {
    /** What tells that a clause of a promise names an edge: an answer for it, or a range. */
    private static final Pattern EDGE_OF_PROMISE =
            Pattern.compile("\\b(BAD|STATE|FULL|NONE)\\b|\\d to \\d|-1|from 0");
    private static final Pattern EDGE_OF_TERM = Pattern.compile("\\d to \\d|at most|at first"
            + "|early|cannot|dropped|nothing|none|no glass|no error|least|latest|whatever|grip");
    private static final List<String> TERMS =
            List.of("Glasses", "Spans", "Text", "Changes", "Errors");

    private final Map<String, List<String>> sections = new LinkedHashMap<>();
    private final Map<String, List<String>> tested = new LinkedHashMap<>();

    Document(Path file) throws IOException {
        String section = "";
        for (String line : Files.readAllLines(file)) {
            if (line.startsWith("#")) {
                section = line.replaceFirst("#+ ", "");
            }
            sections.computeIfAbsent(section, name -> new ArrayList<>()).add(line);
        }
    }

    boolean says(String section, String words) {
        tested.computeIfAbsent(section, name -> new ArrayList<>()).add(words);
        return sections.getOrDefault(section, List.of()).stream()
                .anyMatch(line -> line.contains(words));
    }

    List<String> promises() {
        return sections.keySet().stream().filter(name -> name.startsWith("Promise ")).toList();
    }

    boolean hasTestFor(String section) {
        return tested.containsKey(section);
    }

    /** The clauses that name an edge, but that no test is about. */
    List<String> untested() {
        List<String> untested = new ArrayList<>();
        for (String section : sections.keySet()) {
            if (section.startsWith("Promise ")) {
                addUntested(section, EDGE_OF_PROMISE, untested);
            } else if (TERMS.contains(section)) {
                addUntested(section, EDGE_OF_TERM, untested);
            }
        }
        return untested;
    }

    private void addUntested(String section, Pattern edge, List<String> untested) {
        List<String> known = tested.getOrDefault(section, List.of());
        for (String line : sections.get(section)) {
            for (String clause : line.split("[;.:]( |$)")) {
                if (edge.matcher(clause).find()
                        && known.stream().noneMatch(words -> hasClause(words, clause))) {
                    untested.add(section + ": " + clause);
                }
            }
        }
    }

    private static boolean hasClause(String words, String clause) {
        return List.of(words.split("[;.:]( |$)")).contains(clause);
    }
}
