import java.io.IOException;
import java.nio.file.Files;
import java.nio.file.Path;
import java.util.Set;

/** Every edge that the document names; a clause of its terms and promises without one makes this fail. */
public final class EdgesTest {
    /** Clauses that name no boundary case. */
    private static final Set<String> WITHOUT_EDGE = Set.of(
        "A CHILD LIES (awake), CRIES (for so many MINUTES more) or SLEEPS, in a COT or OUT",
        "By this it is asked");

    public static void main(String[] args) throws IOException {
        Path file = Path.of(args.length > 1 ? args[1] : "../shared/DOC.md");
        Edges e = new Edges(Files.exists(file) ? new Doc(file) : null);
        new AskedEdges(e).all();
        new RowsEdges(e).all();
        new TextEdges(e).all();
        new DoneEdges(e).all();
        new ForetoldEdges(e).all();
        new TraitEdges(e).all();
        e.end(WITHOUT_EDGE);
    }
}
