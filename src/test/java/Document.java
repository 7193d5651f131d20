import java.io.IOException;
import java.nio.file.Files;
import java.nio.file.Path;

/** The text of ../shared/DOC.md, and which of its words stand in a sentence that a test has quoted. */
final class Document {
    private final String text;
    private final boolean[] quoted;
    private int from = 0;
    private int to = 0;

    Document() throws IOException {
        String raw = Files.readString(Path.of("../shared/DOC.md"));
        text = raw.replaceAll("```[a-z]*", " ").replaceAll("\\s+", " ");
        quoted = new boolean[text.length()];
    }

    /** What is quoted from here on stands between these two; false if they are not there. */
    boolean part(String begin, String end) {
        from = text.indexOf(begin);
        to = from < 0 ? -1 : text.indexOf(end, from + begin.length());
        return from >= 0 && to >= 0;
    }

    /** Its heading and the line of its face are no sentences. */
    boolean promise(int number) {
        if (!part("## Promise " + number + ":", "## ")) {
            return false;
        }
        int face = text.indexOf("`:", from);
        markQuoted(from, face);
        from = face;
        return face >= 0 && face < to;
    }

    boolean quote(String sentence) {
        int at = text.indexOf(sentence, from);
        if (sentence.isEmpty() || at < 0 || at + sentence.length() > to) {
            return false;
        }
        markQuoted(at, at + sentence.length());
        return true;
    }

    private void markQuoted(int begin, int end) {
        for (int i = begin; i < end; i++) {
            quoted[i] = true;
        }
    }

    /** Prints what no test has quoted, from the terms to the last promise, and tells how many such pieces there are. */
    int unquoted() {
        quoteHeadings();
        int begin = text.indexOf("## Terms");
        int end = text.indexOf("## Not promised");
        int pieces = 0;
        StringBuilder piece = new StringBuilder();
        for (int i = begin; i <= end; i++) {
            if (i < end && !quoted[i]) {
                piece.append(text.charAt(i));
                continue;
            }
            if (piece.chars().anyMatch(Character::isLetterOrDigit)) {
                pieces++;
                System.out.println("no test quotes: " + piece);
            }
            piece.setLength(0);
        }
        return pieces;
    }

    private void quoteHeadings() {
        for (String heading : new String[] {"## Terms", "==== 2."}) {
            int at = text.indexOf(heading);
            markQuoted(Math.max(0, at), at + heading.length());
        }
    }
}
