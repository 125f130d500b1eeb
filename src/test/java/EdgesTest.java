import java.io.IOException;
import java.util.List;

/** Each sentence of the document's terms and promises holds: every one has an edge, and so a test of its own. */
final class EdgesTest {
    private static final Checks CHECKS = new Checks();

    public static void main(String[] args) throws IOException {
        Document document = new Document();
        List<Edge> edges = Edges.all();
        for (Edge edge : edges) {
            int before = CHECKS.asked();
            edge.ask(CHECKS);
            CHECKS.holds("to ask something", CHECKS.asked() > before);
            CHECKS.holds("to stand in the document once", document.quote(edge.region, edge.sentence));
        }
        CHECKS.at("document");
        for (String piece : document.unquoted()) {
            CHECKS.holds("a test of " + piece, false);
        }
        System.out.println(edges.size() + " sentences");
        CHECKS.end();
    }
}
