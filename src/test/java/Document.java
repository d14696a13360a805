import java.io.IOException;
import java.nio.file.Files;
import java.nio.file.Path;
import java.util.ArrayList;
import java.util.BitSet;
import java.util.LinkedHashMap;
import java.util.List;
import java.util.Map;

/** The sections of the document that tests are due for, and which of their words a test has quoted. */
final class Document {
    /** The face is in FaceTest; the others tell nothing that a call could answer. */
    private static final List<String> SECTIONS_LEFT_OUT = List.of("DivisorLockers", "The public face", "Not promised");
    private static final List<String> LINES_LEFT_OUT = List.of("Lockers whose doors are turned by divisors:",
            "Doors, passes", "Ahead of the calls ");

    private final Map<String, String> sections = new LinkedHashMap<>();
    private final Map<String, BitSet> quoted = new LinkedHashMap<>();

    static Document read(Path path) throws IOException {
        Document document = new Document();
        String section = "";
        for (String line : Files.readAllLines(path)) {
            if (line.startsWith("#")) {
                section = line.replaceAll("^#+ ", "").replaceAll(":.*", "");
            } else if (document.isDue(section, line)) {
                // The signature at the head of a promise is FaceTest's.
                document.sections.merge(section, line.replaceAll("^`[^`]*\\)[^`]*`: ", ""), (all, next) -> all + "\n" + next);
            }
        }
        document.sections.keySet().forEach(name -> document.quoted.put(name, new BitSet()));
        return document;
    }

    private boolean isDue(String section, String line) {
        return !SECTIONS_LEFT_OUT.contains(section) && LINES_LEFT_OUT.stream().noneMatch(line::startsWith);
    }

    boolean has(String section) {
        return sections.containsKey(section);
    }

    /** Answers whether the section has these words. */
    boolean quote(String section, String words) {
        if (!has(section)) {
            return false;
        }
        String text = sections.get(section);
        int place = text.indexOf(words);
        boolean found = place >= 0;
        while (place >= 0) {
            quoted.get(section).set(place, place + words.length());
            place = text.indexOf(words, place + words.length());
        }
        return found;
    }

    /** The stretches with a letter or a digit in them that no test has quoted. */
    List<String> unquoted() {
        List<String> all = new ArrayList<>();
        sections.forEach((section, text) -> {
            BitSet known = quoted.get(section);
            int from = known.nextClearBit(0);
            while (from < text.length()) {
                int to = known.nextSetBit(from) < 0 ? text.length() : known.nextSetBit(from);
                String words = text.substring(from, to);
                if (words.chars().anyMatch(Character::isLetterOrDigit)) {
                    all.add(section + ": " + words.strip());
                }
                from = known.nextClearBit(to);
            }
        });
        return all;
    }
}
