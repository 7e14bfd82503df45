import java.io.IOException;
import java.nio.file.Files;
import java.nio.file.Path;
import java.util.ArrayList;
import java.util.BitSet;
import java.util.List;
import java.util.regex.Matcher;
import java.util.regex.Pattern;

/** The document's words, and which of them an edge has quoted: so that no clause is left without one unseen. */
final class Doc {
    private static final Pattern CLAUSE = Pattern.compile("[^.;]+(?:\\.\\.[^.;]+)*");
    private final String text;
    private final BitSet quoted = new BitSet();

    Doc(Path file) throws IOException {
        text = Files.readString(file).replaceAll("\\s+", " ").replaceAll("```(text )?|======== \\d ", "");
    }

    private int sectionStart(int promise) {
        return text.indexOf("## Promise " + promise + ":");
    }

    private int sectionEnd(int promise) {
        int end = text.indexOf(" ## ", sectionStart(promise));
        return end < 0 ? text.length() : end;
    }

    /** Looks in the promise's own section first, then in all that stands ahead of the promises. */
    boolean quotes(int promise, String words) {
        int start = sectionStart(promise);
        int at = start < 0 ? -1 : text.indexOf(words, start);
        if (at < 0 || at + words.length() > sectionEnd(promise)) {
            at = text.indexOf(words);
            if (at < 0 || at > sectionStart(1)) {
                return false;
            }
        }
        quoted.set(at, at + words.length());
        return true;
    }

    /** The clauses of the terms and of the promises that no quote touches. */
    List<String> untouched() {
        List<String> left = new ArrayList<>();
        clauses(text.indexOf("## Terms") + 8, text.indexOf("Ahead of the calls"), left);
        for (int promise = 1; sectionStart(promise) >= 0; promise++) {
            int body = text.indexOf("`: ", sectionStart(promise)) + 3;
            clauses(body, sectionEnd(promise), left);
        }
        return left;
    }

    private void clauses(int start, int end, List<String> left) {
        Matcher m = CLAUSE.matcher(text).region(start, end);
        while (m.find()) {
            String clause = m.group().trim();
            int touched = quoted.nextSetBit(m.start());
            if (clause.matches(".*[A-Za-z].*") && (touched < 0 || touched >= m.end())) {
                left.add(clause);
            }
        }
    }
}
