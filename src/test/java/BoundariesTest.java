import java.io.IOException;

/** Each sentence of the document that names a boundary case, by tests of its own. */
public final class BoundariesTest {
    private BoundariesTest() {
    }

    public static void main(String[] args) throws IOException {
        Sentences doc = new Sentences(Due.project(args).resolve("../shared/DOC.md").normalize());
        new TextEdges(doc).run();
        new PlayEdges(doc).run();
        new ChoiceEdges(doc).run();
        new NightEdges(doc).run();
        doc.end();
        Due.end("BoundariesTest");
    }
}
