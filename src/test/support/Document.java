import java.io.IOException;
import java.nio.file.Files;
import java.nio.file.Path;
import java.util.ArrayList;
import java.util.BitSet;
import java.util.LinkedHashMap;
import java.util.List;
import java.util.Map;

/** The document's words, by heading, and which of them have a test. */
final class Document {
    /** What stands under these is told again, and bindingly, under the others. */
    private static final List<String> NEED_NO_TEST = List.of("PointAnswers", "What it is", "The public face", "Not promised");

    private final Map<String, String> sections = new LinkedHashMap<>();
    private final Map<String, BitSet> tested = new LinkedHashMap<>();

    Document(Path file) throws IOException {
        String heading = "";
        for (String line : Files.readAllLines(file)) {
            if (line.startsWith("#")) {
                heading = line.replaceFirst("^#+ ", "").replaceFirst(":.*", "");
                sections.put(heading, "");
                tested.put(heading, new BitSet());
            } else {
                sections.merge(heading, words(line) + " ", String::concat);
            }
        }
        sections.replaceAll((title, section) -> section.replaceAll(" +", " "));
    }

    /** A line without what is no sentence: fences, the numbers of a list, the head of a method. */
    private static String words(String line) {
        if (line.startsWith("```") || line.startsWith("Ahead of the calls")) {
            return "";
        }
        return line.replaceFirst("^\\d\\. ", "").replaceFirst("^`(int \\w+|PointAnswers)\\([^`]*\\)`: ", "").strip();
    }

    /** Marks words as tested; false if they do not stand there, or at more than one place. */
    boolean mark(String heading, String words) {
        String section = sections.getOrDefault(heading, "");
        int from = section.indexOf(words);
        if (from < 0 || section.indexOf(words, from + 1) >= 0) {
            return false;
        }
        tested.get(heading).set(from, from + words.length());
        return true;
    }

    List<String> untested() {
        List<String> found = new ArrayList<>();
        for (Map.Entry<String, String> section : sections.entrySet()) {
            if (!NEED_NO_TEST.contains(section.getKey())) {
                addUntested(section.getKey(), section.getValue(), found);
            }
        }
        return found;
    }

    private void addUntested(String heading, String section, List<String> found) {
        BitSet marked = tested.get(heading);
        for (int from = marked.nextClearBit(0); from < section.length(); ) {
            int end = marked.nextSetBit(from);
            int to = end < 0 ? section.length() : end;
            String words = section.substring(from, to);
            if (words.chars().anyMatch(Character::isLetterOrDigit)) {
                found.add(heading + ": " + words);
            }
            from = marked.nextClearBit(to);
        }
    }
}
