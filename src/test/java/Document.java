import java.io.IOException;
import java.nio.file.Files;
import java.nio.file.Path;
import java.util.ArrayList;
import java.util.List;
import java.util.Map;
import java.util.TreeMap;
import java.util.regex.Matcher;
import java.util.regex.Pattern;

/** The document's words, by promise (the terms are section 0), and which of them a test has quoted. */
final class Document {
    static final int TERMS = 0;
    private static final Pattern HEADING = Pattern.compile("## (Terms|Promise (\\d+): .*)");

    private static final class Section {
        String text;
        boolean[] quoted;
    }

    private final Map<Integer, Section> sections = new TreeMap<>();

    Document() {
        StringBuilder words = null;
        int number = 0;
        for (String line : lines()) {
            Matcher heading = HEADING.matcher(line);
            if (line.startsWith("## ")) {
                close(number, words);
                words = heading.matches() ? new StringBuilder() : null;
                number = heading.matches() && heading.group(2) != null ? Integer.parseInt(heading.group(2)) : TERMS;
            } else if (words != null && !isFrame(line)) {
                words.append(line.strip()).append(' ');
            }
        }
        close(number, words);
    }

    private static List<String> lines() {
        try {
            return Files.readAllLines(Path.of("../shared/DOC.md"));
        } catch (IOException e) {
            throw new AssertionError(e);
        }
    }

    /** Titles, fences and remarks on the interface promise nothing. */
    private static boolean isFrame(String line) {
        return line.startsWith("```") || line.startsWith("Ahead of the calls") || line.matches("[A-Z ]+");
    }

    private void close(int number, StringBuilder words) {
        if (words == null) {
            return;
        }
        Section section = new Section();
        section.text = words.toString().replaceAll("\\s+", " ");
        section.quoted = new boolean[section.text.length()];
        sections.put(number, section);
        if (number != TERMS) {
            // The signature is FaceTest's.
            quote(number, section.text.substring(0, section.text.indexOf(")") + 1));
            Matcher list = Pattern.compile(" throws [A-Za-z, ]*`:").matcher(section.text);
            if (list.find()) {
                quote(number, list.group());
            }
        }
    }

    int size() {
        return sections.size();
    }

    /** Notes a quotation; tells whether the section has it. */
    boolean quote(int number, String words) {
        Section section = sections.get(number);
        int at = section == null || words.isEmpty() ? -1 : section.text.indexOf(words);
        boolean found = at >= 0;
        while (at >= 0) {
            for (int k = at; k < at + words.length(); k++) {
                section.quoted[k] = true;
            }
            at = section.text.indexOf(words, at + 1);
        }
        return found;
    }

    /** The passages that no test has quoted, but for the words that join quotations. */
    List<String> unquoted() {
        List<String> passages = new ArrayList<>();
        for (Map.Entry<Integer, Section> entry : sections.entrySet()) {
            Section section = entry.getValue();
            StringBuilder passage = new StringBuilder();
            for (int k = 0; k <= section.text.length(); k++) {
                if (k < section.text.length() && !section.quoted[k]) {
                    passage.append(section.text.charAt(k));
                    continue;
                }
                if (!passage.toString().replaceAll("\\b(and|or|\\d\\.)|[^A-Za-z0-9]", "").isEmpty()) {
                    passages.add((entry.getKey() == TERMS ? "terms" : "promise " + entry.getKey()) + ": " + passage);
                }
                passage.setLength(0);
            }
        }
        return passages;
    }
}
