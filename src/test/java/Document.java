import java.io.IOException;
import java.nio.file.Files;
import java.nio.file.Path;
import java.util.ArrayList;
import java.util.BitSet;
import java.util.LinkedHashMap;
import java.util.List;
import java.util.Map;

/** The sections of ../shared/DOC.md, and which of their words a test quotes; without the file it has no section. */
final class Document {
    private static final Path FILE = Path.of("..", "shared", "DOC.md");

    private final Map<String, String> sections = new LinkedHashMap<>();
    private final Map<String, BitSet> quoted = new LinkedHashMap<>();

    Document() {
        if (Files.isReadable(FILE)) {
            try {
                split(Files.readString(FILE));
            } catch (IOException e) {
                throw new IllegalStateException(e);
            }
        }
    }

    private void split(String all) {
        String[] parts = all.split("\n## ");
        for (int i = 1; i < parts.length; i++) {
            String title = parts[i].substring(0, parts[i].indexOf('\n'));
            String text = parts[i].substring(title.length()).replace("```text", "").replace("```", "");
            sections.put(title.split(":")[0], text.replaceAll("\\s+", " ").trim());
            quoted.put(title.split(":")[0], new BitSet());
        }
    }

    boolean isThere() {
        return !sections.isEmpty();
    }

    /** Whether a section has these words; they count as quoted, wherever they stand in it. */
    boolean says(String section, String words) {
        String text = sections.getOrDefault(section, "");
        int at = text.indexOf(words);
        boolean found = at >= 0;
        while (at >= 0) {
            quoted.get(section).set(at, at + words.length());
            at = text.indexOf(words, at + 1);
        }
        return found;
    }

    /** What the Terms and the promises say and no test quotes; a method's face is left to FaceTest. */
    List<String> unquoted() {
        List<String> all = new ArrayList<>();
        for (String section : sections.keySet()) {
            if (section.equals("Terms") || section.startsWith("Promise ")) {
                addUnquoted(section, all);
            }
        }
        return all;
    }

    private void addUnquoted(String section, List<String> all) {
        String text = sections.get(section);
        int from = text.startsWith("`") ? text.indexOf("`", 1) + 2 : 0;
        BitSet covered = quoted.get(section);
        while (from < text.length()) {
            int begin = covered.nextClearBit(from);
            int end = covered.nextSetBit(begin) < 0 ? text.length() : covered.nextSetBit(begin);
            String rest = begin < text.length() ? text.substring(begin, end).trim() : "";
            if (!rest.isEmpty()) {
                all.add(section + ": " + rest);
            }
            from = end;
        }
    }
}
