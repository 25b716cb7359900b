import java.io.IOException;
import java.nio.file.Files;
import java.nio.file.Path;
import java.util.ArrayList;
import java.util.Arrays;
import java.util.List;

/** The words of the document in front of 'Not promised', and which of them a test has quoted. */
final class Document {
    private static final Path PLACE = Path.of("../shared/DOC.md");

    private final String words;
    private final boolean[] quoted;

    private Document(String words) {
        this.words = words;
        this.quoted = new boolean[words.length()];
    }

    /** Headings, and the face, which FaceTest looks at, are not among the words. */
    static Document read() throws IOException {
        if (!Files.exists(PLACE)) {
            System.out.println(PLACE + " is not there: that the quoted words stand in it is not looked at");
            return new Document("");
        }
        String text = Files.readString(PLACE);
        String promised = text.substring(0, text.indexOf("\n## Not promised"));
        String sentences = promised.replaceAll("(?s)```java.*?```", "").replaceAll("(?m)^(#.*|```.*)$", "");
        return new Document(sentences.replaceAll("\\s+", " ").trim());
    }

    /** Marks the words where they stand and were not quoted yet; false when they don't stand there. */
    boolean quote(String quote) {
        for (int at = words.indexOf(quote); at >= 0; at = words.indexOf(quote, at + 1)) {
            if (!quoted[at]) {
                Arrays.fill(quoted, at, at + quote.length(), true);
                return true;
            }
        }
        return words.isEmpty();
    }

    /** What no test has quoted. */
    List<String> unquoted() {
        List<String> left = new ArrayList<>();
        int from = 0;
        for (int at = 0; at <= quoted.length; at++) {
            if (at == quoted.length || quoted[at]) {
                String words = this.words.substring(from, at).trim();
                if (!words.isEmpty()) {
                    left.add(words);
                }
                from = at + 1;
            }
        }
        return left;
    }
}
