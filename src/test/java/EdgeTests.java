import java.io.IOException;
import java.nio.file.Files;
import java.nio.file.Path;

/** Each sentence of the document has a test of its own here; the words without one are told. */
public final class EdgeTests {
    public static void main(String[] args) throws IOException {
        GroundEdges.all();
        TextEdges.all();
        ThoughtEdges.all();
        KeptEdges.all();
        RefusedEdges.all();
        Edges.everySentenceHasATest(Files.readString(Path.of("../shared/DOC.md")));
        Due.end();
    }
}
