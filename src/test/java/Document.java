import java.io.IOException;
import java.nio.file.Files;
import java.nio.file.Path;
import java.util.regex.Matcher;
import java.util.regex.Pattern;

/** The document's words, section by section, and which of them a test has quoted. Section 0 is "Terms". */
final class Document {
    static final int SECTIONS = 48;
    private final String[] words = new String[SECTIONS];
    private final boolean[][] quoted = new boolean[SECTIONS][];

    Document() {
        String all = read();
        words[0] = plain(between(all, "## Terms\n", "\nAhead of the calls"));
        for (int promise = 1; promise < SECTIONS; promise++) {
            String section = between(all, "## Promise " + promise + ": ", "\n## ");
            words[promise] = plain(section.substring(section.indexOf("`: ") + 3));
        }
        for (int i = 0; i < SECTIONS; i++) {
            quoted[i] = new boolean[words[i].length()];
        }
    }

    private static String read() {
        String path = System.getenv("ICE_DOC");
        try {
            return Files.readString(Path.of(path == null ? "../shared/DOC.md" : path));
        } catch (IOException e) {
            throw new IllegalStateException("the document can't be read: " + e.getMessage());
        }
    }

    private static String between(String all, String begin, String end) {
        int from = all.indexOf(begin);
        int to = all.indexOf(end, from + begin.length());
        if (from < 0 || to < 0) {
            throw new IllegalStateException("the document has no " + begin.trim());
        }
        return all.substring(from + begin.length(), to);
    }

    /** Without fences and the numbers of a list, on one line. */
    private static String plain(String section) {
        return section.replaceAll("(?m)^```.*$", "").replaceAll("(?m)^\\d\\. ", "").replaceAll("\\s+", " ").trim();
    }

    String section(int section) {
        return words[section];
    }

    /** Marks a quote, where it stands several times the next of them: whether it stands there at all. */
    boolean quote(int section, String quote) {
        int at = words[section].indexOf(quote);
        int next = at;
        while (next >= 0 && quoted[section][next]) {
            next = words[section].indexOf(quote, next + 1);
        }
        int begin = next >= 0 ? next : at;
        for (int i = 0; begin >= 0 && i < quote.length(); i++) {
            quoted[section][begin + i] = true;
        }
        return at >= 0;
    }

    /** The words of a section that no test has quoted. */
    String unquoted(int section) {
        StringBuilder rest = new StringBuilder();
        for (int i = 0; i < words[section].length(); i++) {
            rest.append(quoted[section][i] ? '|' : words[section].charAt(i));
        }
        Matcher word = Pattern.compile("[^|]*\\w[^|]*").matcher(rest);
        StringBuilder found = new StringBuilder();
        while (word.find()) {
            found.append('[').append(word.group().trim()).append(']');
        }
        return found.toString();
    }
}
