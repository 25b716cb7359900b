import java.io.IOException;

/** Each sentence of the document, quoted, with a test of its own; none of them may be left out. */
public final class SentencesTest {
    public static void main(String[] args) throws IOException {
        Document document = Document.read();
        Due due = new Due(document);
        new ClassSentences(due).ask();
        new CodeSentences(due).ask();
        new ThrowSentences(due).ask();
        new CheckSentences(due).ask();
        new ReachSentences(due).ask();
        new BuildSentences(due).ask();
        new CloseSentences(due).ask();
        new RunSentences(due).ask();
        due.leavesOut(document.unquoted());
        due.end();
    }
}
