import java.io.IOException;
import java.nio.file.Files;
import java.nio.file.Path;

/**
 * All promises at the edges that the document names, sentence by sentence; and that each
 * sentence of ../shared/DOC.md is named by one of these tests.
 */
public final class EdgesTest {
    private static final Path DOCUMENT = Path.of("..", "shared", "DOC.md");

    public static void main(String[] args) throws IOException {
        ListEdges.run();
        KioskEdges.run();
        TurnEdges.run();
        DeviceEdges.run();
        FreezeEdges.run();
        VisitorEdges.run();
        FigureEdges.run();
        SoundEdges.run();
        Edge.close();
        Check.same(DOCUMENT + " is there", Files.isReadable(DOCUMENT), true);
        if (Files.isReadable(DOCUMENT)) {
            Sentences sentences = Sentences.of(DOCUMENT);
            Check.same("the document has sentences", sentences.size() > 29, true);
            sentences.compareWith(Edge.promises(), Edge.sentences());
        }
        Check.end();
    }
}
