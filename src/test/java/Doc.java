import java.io.IOException;
import java.nio.file.Files;
import java.nio.file.Path;
import java.util.ArrayList;
import java.util.List;

/** The document's Terms and promises, and which of their words a test stands for. */
final class Doc {
    private final String text;
    private final boolean[] isQuoted;

    Doc(Path path) throws IOException {
        text = Files.readString(path);
        isQuoted = new boolean[text.length()];
    }

    /** Marks the words where they stand under a heading; false, if they don't stand there. */
    boolean quote(String heading, String words) {
        int from = text.indexOf("\n## " + heading + "\n");
        if (from < 0) {
            return false;
        }
        int end = text.indexOf("\n## ", from + 1);
        int found = -1;
        for (int at = text.indexOf(words, from); at >= 0 && at < end;
                at = text.indexOf(words, at + 1)) {
            found = at;
            if (!isQuoted[at]) {
                break;
            }
        }
        if (found < 0) {
            return false;
        }
        for (int i = found; i < found + words.length(); i++) {
            isQuoted[i] = true;
        }
        return true;
    }

    /** What no test stands for, of the lines from the Terms to the last promise. */
    List<String> unquoted() {
        List<String> left = new ArrayList<>();
        int at = text.indexOf("\n## Terms\n") + 1;
        int end = text.indexOf("\n## Not promised\n");
        while (at < end) {
            int next = text.indexOf('\n', at) + 1;
            if (!text.startsWith("#", at) && !text.startsWith("```", at)) {
                addUnquoted(at, next - 1, left);
            }
            at = next;
        }
        return left;
    }

    /** The signatures, which stand between two `, are no sentences. */
    private void addUnquoted(int from, int to, List<String> left) {
        StringBuilder words = new StringBuilder();
        boolean isCode = false;
        for (int i = from; i <= to; i++) {
            char c = i < to ? text.charAt(i) : '\n';
            isCode ^= c == '`';
            if (i < to && !isQuoted[i] && !isCode) {
                words.append(c);
            } else {
                addWords(words.toString(), left);
                words.setLength(0);
            }
        }
    }

    private static void addWords(String words, List<String> left) {
        if (words.chars().anyMatch(Character::isLetterOrDigit)) {
            left.add(words.trim());
        }
    }
}
