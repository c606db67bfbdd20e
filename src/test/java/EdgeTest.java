import java.nio.file.Path;

/** Each sentence of the document's terms and promises, at its edges; none may be left without a test. */
public final class EdgeTest {
    public static void main(String[] args) throws Exception {
        Checks checks = new Checks();
        Sentences sentences = new Sentences(Path.of("../shared/DOC.md"));
        checks.due("sections of the document", sentences.sections(), 54);
        new TermEdges(checks, sentences).all();
        new CallEdges(checks, sentences).all();
        new RefusalEdges(checks, sentences).all();
        checks.part("without a test");
        for (String left : sentences.left()) {
            checks.holds(left, false);
        }
        checks.end("EdgeTest");
    }
}
