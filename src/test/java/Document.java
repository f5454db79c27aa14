import java.nio.file.Files;
import java.nio.file.Path;
import java.util.ArrayList;
import java.util.LinkedHashMap;
import java.util.List;
import java.util.Map;

/** The words of ../shared/DOC.md by section, and which of them a test has quoted. */
final class Document {
    private final Map<String, String> words = new LinkedHashMap<>();
    private final Map<String, boolean[]> quoted = new LinkedHashMap<>();

    Document(Path file) throws Exception {
        String section = "";
        for (String line : Files.readAllLines(file)) {
            if (line.startsWith("## ")) {
                section = line.substring(3).replaceAll(":.*", "");
            } else if (!isOrnament(line)) {
                String plain = line.replaceAll("^- `\\w+`: ", "").replaceAll("\\s+", " ").trim();
                words.merge(section, plain, (before, more) -> (before + " " + more).trim());
            }
        }
        for (String name : words.keySet()) {
            quoted.put(name, new boolean[words.get(name).length()]);
        }
    }

    /** Signatures, code and captions are no sentences. */
    private static boolean isOrnament(String line) {
        return line.startsWith("#") || line.startsWith("`") || line.startsWith("----")
                || line.matches("[A-Z ]+");
    }

    /** Marks these words wherever they stand in the section; false if they do not stand there. */
    boolean quote(String section, String said) {
        String all = words.getOrDefault(section, "");
        int at = all.indexOf(said);
        boolean stands = at >= 0;
        while (at >= 0) {
            for (int k = at; k < at + said.length(); k++) {
                quoted.get(section)[k] = true;
            }
            at = all.indexOf(said, at + 1);
        }
        return stands;
    }

    /** The sections that promise something. */
    List<String> promising() {
        List<String> names = new ArrayList<>();
        for (String name : words.keySet()) {
            if (name.equals("Description") || name.startsWith("Promise ")) {
                names.add(name);
            }
        }
        return names;
    }

    /** What stands in a section and was not quoted, each piece with a letter or a digit in it. */
    List<String> unquoted(String section) {
        List<String> pieces = new ArrayList<>();
        StringBuilder piece = new StringBuilder();
        String all = words.getOrDefault(section, "");
        for (int k = 0; k <= all.length(); k++) {
            if (k < all.length() && !quoted.get(section)[k]) {
                piece.append(all.charAt(k));
            } else {
                if (piece.toString().matches(".*\\w.*")) {
                    pieces.add(piece.toString().trim());
                }
                piece.setLength(0);
            }
        }
        return pieces;
    }
}
