import java.io.IOException;
import java.nio.file.Files;
import java.nio.file.Path;
import java.util.BitSet;
import java.util.HashMap;
import java.util.LinkedHashMap;
import java.util.Map;

/**
 * ../shared/DOC.md in pieces ("==== 1" to "==== 7", "Promise 1" to "Promise 33", and "What it is", where it tells how long
 * an object is used), and which of their words tests hold.
 * What a test quotes must stand in its piece, and at the end no word of a piece may be left that none quotes.
 */
final class Document {
    private static final Path PLACE = Path.of("../shared/DOC.md");

    private final Map<String, StringBuilder> pieces = new LinkedHashMap<>();
    private final Map<String, BitSet> held = new HashMap<>();
    private final Due due;

    Document(Due due) throws IOException {
        this.due = due;
        if (!Files.exists(PLACE)) {
            System.out.println("no " + PLACE + ": quotations are not looked up");
            return;
        }
        StringBuilder piece = new StringBuilder();
        for (String line : Files.readAllLines(PLACE)) {
            if (line.startsWith("#") || line.startsWith("====") || line.startsWith("Ahead of") || line.startsWith("An object is")) {
                piece = begin(line);
            } else if (!line.startsWith("```")) {
                piece.append(' ').append(line.trim());
            }
        }
        due.holds("the document has 41 pieces", pieces.size() == 41);
    }

    /** The piece that a line begins; one that is kept nowhere, if it is neither a term nor a promise. */
    private StringBuilder begin(String line) {
        StringBuilder piece = new StringBuilder();
        if (line.startsWith("====")) {
            pieces.put(line.substring(0, 6), piece);
            piece.append(line.substring(6));
        } else if (line.startsWith("## Promise ")) {
            pieces.put(line.substring(3, line.indexOf(':')), piece);
        } else if (line.startsWith("An object is")) {
            pieces.put("What it is", piece);
            piece.append(line);
        }
        return piece;
    }

    private static String plain(CharSequence words) {
        return words.toString().replaceAll("\\s+", " ").trim();
    }

    /** Notes that a test holds these words of a piece; they may stand there more than once. */
    void hold(String where, String words) {
        if (pieces.isEmpty()) {
            return;
        }
        StringBuilder piece = pieces.get(where);
        String text = piece == null ? "" : plain(piece);
        String quoted = plain(words);
        int at = text.indexOf(quoted);
        due.holds(where + " says \"" + quoted + "\"", at >= 0);
        for (; at >= 0; at = text.indexOf(quoted, at + 1)) {
            held.computeIfAbsent(where, w -> new BitSet()).set(at, at + quoted.length());
        }
    }

    /** Every letter and digit of every piece, but for a call's own line, is held by a test. */
    void end() {
        for (Map.Entry<String, StringBuilder> piece : pieces.entrySet()) {
            BitSet marks = held.getOrDefault(piece.getKey(), new BitSet());
            String text = plain(piece.getValue());
            int signature = text.startsWith("`") ? text.indexOf("`:") + 2 : 0;
            StringBuilder left = new StringBuilder();
            for (int i = 0; i < text.length(); i++) {
                left.append(i < signature || marks.get(i) || !Character.isLetterOrDigit(text.charAt(i)) ? ' ' : text.charAt(i));
            }
            due.holds("a test of \"" + plain(left) + "\" of " + piece.getKey(), plain(left).isEmpty());
        }
    }
}
