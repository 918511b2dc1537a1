import java.io.IOException;
import java.nio.file.Path;

/**
 * A test of its own for each sentence of the document that names a boundary case, in its order:
 * each begins with the document's words, which must stand in ../shared/DOC.md.
 */
public final class EdgesTest {
    public static void main(String[] args) throws IOException {
        Edges edges = new Edges(Path.of(System.getProperty("probeloom.doc", "../shared/DOC.md")));
        edges.free("## Terms", "a heading");
        TellingEdges.all(edges);
        InstructionEdges.all(edges);
        TypeEdges.all(edges);
        RunEdges.all(edges);
        ProbeEdges.all(edges);
        WeaveEdges.all(edges);
        RefusedEdges.all(edges);
        CallEdges.all(edges);
        AnswerEdges.all(edges);
        edges.end();
        Kit.end();
    }
}
