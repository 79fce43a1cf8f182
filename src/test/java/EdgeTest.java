import java.io.IOException;
import java.nio.file.Path;
import java.util.List;

/**
 * A test for each sentence of the document that names an edge: too small, too large, empty, full, a
 * wrap-around, a refused call. That no such sentence is left without one is looked at, too.
 */
public final class EdgeTest {
    private EdgeTest() {
    }

    public static void main(String[] args) throws IOException, ReflectiveOperationException {
        Document document = new Document(Path.of("../shared/DOC.md"));
        Checks checks = new Checks("EdgeTest");
        for (Edges edges : List.of(new TextEdges(), new RunEdges(), new GlassEdges(),
                new StickEdges(), new TimeEdges(), new HistoryEdges(), new ToldEdges(),
                new PlanEdges())) {
            edges.testAll(checks, document);
        }
        checks.due("the promises", document.promises().size(), 23);
        for (String promise : document.promises()) {
            checks.holds("a test for " + promise, document.hasTestFor(promise));
        }
        for (String clause : document.untested()) {
            checks.holds("a test for '" + clause + "'", false);
        }
        checks.end();
    }
}
