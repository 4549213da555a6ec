import java.io.IOException;
import java.nio.file.Path;

/** Every sentence of the document that names a boundary case, in a test of its own. */
public final class EdgesTest {
    private EdgesTest() {
    }

    public static void main(String[] args) throws IOException {
        Edges e = new Edges(Path.of("../shared/DOC.md"));
        AboutEdges.tell(e);
        TermEdges.tell(e);
        TextEdges.tell(e);
        ActEdges.tell(e);
        DayEdges.tell(e);
        TreeEdges.tell(e);
        GuessEdges.tell(e);
        ChanceEdges.tell(e);
        KeptEdges.tell(e);
        e.end();
    }
}
