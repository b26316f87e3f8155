import java.io.IOException;
import java.nio.file.Path;

/** Each sentence of the document that names a boundary case, by tests of its own. */
public final class BoundariesTest {
    private BoundariesTest() {
    }

    private static Path document(String[] args) {
        Path source = Path.of(args.length > 0 ? args[0] : "src/main/java/ThreeLadders.java").toAbsolutePath();
        Path project = source.getParent().resolve("../../..").normalize();
        return project.resolve("../shared/DOC.md").normalize();
    }

    public static void main(String[] args) throws IOException {
        Sentences doc = new Sentences(document(args));
        new TextEdges(doc).run();
        new PlayEdges(doc).run();
        new ChoiceEdges(doc).run();
        new NightEdges(doc).run();
        doc.end();
        Due.end("BoundariesTest");
    }
}
