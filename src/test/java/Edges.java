import java.util.ArrayList;
import java.util.List;

/** All edges, in the order of the document. */
final class Edges {
    private final List<Edge> list = new ArrayList<>();
    private String region = "";

    static List<Edge> all() {
        Edges edges = new Edges();
        CourseEdges.add(edges);
        TermEdges.add(edges);
        PebbleEdges.add(edges);
        TextEdges.add(edges);
        LookEdges.add(edges);
        WouldEdges.add(edges);
        return edges.list;
    }

    /** How many answers to the questions of an edge are wrong; MutantsTest asks it of classes that are broken. */
    static int wrongAnswers(int edge) {
        Checks checks = new Checks(true);
        all().get(edge).ask(checks);
        return checks.wrong();
    }

    /** The region of the document that the next edges are of. */
    void in(String newRegion) {
        region = newRegion;
    }

    Edge edge(String sentence, Edge.Test test) {
        Edge edge = new Edge(region, sentence, test);
        list.add(edge);
        return edge;
    }
}
