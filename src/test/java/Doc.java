import java.io.IOException;
import java.nio.file.Files;
import java.nio.file.Path;

/**
 * A part of the document: each test names the words that it is about, which must stand there, and at the end no word of
 * the part may be left that no test has named.
 */
final class Doc {
    private final String title;
    /** Empty where the document is not at hand: then the words are not looked up. */
    private final String text;
    private final boolean[] named;
    /** Behind the words that were named last: like words that stand there again are looked for behind them first. */
    private int behind = 0;

    private Doc(String title, String text) {
        this.title = title;
        this.text = text;
        this.named = new boolean[text.length()];
    }

    /** What stands between two marks of the document. */
    static Doc part(String begin, String end) {
        return new Doc(begin, bare(between(begin, end)));
    }

    /** The same with its headings and code, as it stands; empty where the document is not at hand. */
    static String between(String begin, String end) {
        String path = System.getProperty("doc", "../shared/DOC.md");
        if (!Files.isReadable(Path.of(path))) {
            return "";
        }
        try {
            String all = Files.readString(Path.of(path));
            int from = all.indexOf(begin);
            int to = from < 0 ? -1 : end.isEmpty() ? all.length() : all.indexOf(end, from + begin.length());
            Check.due("the document has the part from " + begin + " to " + end, true, from >= 0 && to > from);
            return from >= 0 && to > from ? all.substring(from, to) : "";
        } catch (IOException unread) {
            return "";
        }
    }

    static Doc promise(int number) {
        return part("## Promise " + number + ":", "\n## ");
    }

    /** Without headings, fences, the marks of parts and what stands as code; blanks and lines' ends are one blank. */
    private static String bare(String part) {
        return part.replaceAll("(?m)^#.*$", " ").replaceAll("(?m)^```.*$", " ").replaceAll("==== \\d\\.", " ")
            .replaceAll("`[^`\n]*`", " ").replaceAll("\\s+", " ");
    }

    /** The words that the tests from here on are about. */
    void says(String words) {
        Check.about(title + " \"" + words + "\": ");
        if (text.isEmpty()) {
            return;
        }
        int next = text.indexOf(words, behind);
        int at = next >= 0 ? next : text.indexOf(words);
        Check.due("stands in the document", true, at >= 0);
        for (int i = 0; at >= 0 && i < words.length(); i++) {
            named[at + i] = true;
        }
        behind = at >= 0 ? at + words.length() : behind;
    }

    /** Words of the part that no test has named. */
    void end() {
        Check.about("");
        int from = 0;
        while (from < text.length()) {
            int to = from;
            while (to < text.length() && named[to] == named[from]) {
                to++;
            }
            String words = text.substring(from, to);
            boolean isBare = named[from] || words.chars().noneMatch(Character::isLetterOrDigit);
            Check.due(title + ": no test is about \"" + words.trim() + "\"", true, isBare);
            from = to;
        }
    }
}
