import java.io.IOException;
import java.nio.file.Path;

/** For each sentence of the document that names an edge a test of its own; no sentence of a promise is left over. */
public final class EdgeTests {
    public static void main(String[] args) throws IOException {
        RowEdges.all();
        TextEdges.all();
        HouseEdges.all();
        DeedEdges.all();
        RoundEdges.all();
        PayEdges.all();
        ToldEdges.all();
        Edges.DOCUMENT.look(Path.of("../shared/DOC.md"), Edges.CHECKS);
        Edges.CHECKS.end("EdgeTests");
    }
}
