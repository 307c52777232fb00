import java.io.IOException;
import java.nio.charset.StandardCharsets;
import java.nio.file.Files;
import java.nio.file.Path;
import java.util.BitSet;
import java.util.LinkedHashMap;
import java.util.Map;

/** The document, by its sections, with what of them was quoted. */
final class Document {
    private static final class Section {
        final StringBuilder text = new StringBuilder();
        final BitSet quoted = new BitSet();
    }

    private final Map<String, Section> sections = new LinkedHashMap<>();

    static Document read(Path file) throws IOException {
        Document document = new Document();
        String name = "";
        for (String line : Files.readString(file, StandardCharsets.UTF_8).split("\n")) {
            String trimmed = line.trim();
            if (trimmed.startsWith("#") || trimmed.matches("[A-Z ]+")) {
                name = trimmed.replaceAll("^#+ ", "");
            } else if (!trimmed.isEmpty() && !trimmed.startsWith("```")) {
                document.sections.computeIfAbsent(name, n -> new Section()).text.append(plain(trimmed)).append(' ');
            }
        }
        return document;
    }

    private static String plain(String text) {
        return text.replace("`", "").replaceAll("\\s+", " ");
    }

    /** Marks the words as quoted; false if the section does not have them. */
    boolean quote(String name, String words) {
        Section section = sections.get(name);
        String plain = plain(words.trim());
        int at = section == null ? -1 : section.text.indexOf(plain);
        if (at < 0) {
            return false;
        }
        section.quoted.set(at, at + plain.length());
        return true;
    }

    /** The first words that were not quoted in a section; empty if there are none. */
    String unquoted(String name) {
        Section section = sections.get(name);
        StringBuilder left = new StringBuilder();
        for (int i = 0; i < section.text.length(); i++) {
            left.append(section.quoted.get(i) ? '\n' : section.text.charAt(i));
        }
        for (String words : left.toString().split("\n")) {
            if (words.matches(".*\\w.*")) {
                return words.trim();
            }
        }
        return "";
    }

    Iterable<String> names() {
        return sections.keySet();
    }
}
