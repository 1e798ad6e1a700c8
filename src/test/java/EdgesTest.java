/**
 * The document read sentence by sentence: each names the answers that it asks for, at the last value
 * that is taken and the first that is refused. A sentence without a test of its own is a failure.
 */
public final class EdgesTest {
    public static void main(String[] args) {
        Doc doc = new Doc();
        new TextEdges(doc).check();
        new PlayEdges(doc).check();
        new ExploreEdges(doc).check();
        new AnalyzeEdges(doc).check();
        new Refusals(doc).check();
        doc.end();
        Check.end();
    }
}
