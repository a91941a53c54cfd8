import java.nio.file.Path;

/** Boundary cases of the whole document, each under the sentence that names it. */
public final class EdgeTest {
    public static void main(String[] args) throws Exception {
        Edge edge = new Edge(Path.of("../shared/DOC.md"));
        new EdgeTapes(edge).run();
        new EdgeTexts(edge).run();
        new EdgePeople(edge).run();
        new EdgePapers(edge).run();
        new EdgeChances(edge).run();
        new EdgeFacts(edge).run();
        edge.end();
    }
}
