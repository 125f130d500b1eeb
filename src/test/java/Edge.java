import java.util.ArrayList;
import java.util.List;

/** A sentence of the document, or a piece of one: its test, and ways in which the class could break it. */
final class Edge {
    /** Asks a class for the answers that the sentence makes due. */
    interface Test {
        void ask(Checks checks);
    }

    /** In the method (or, where it is empty, in the whole class) the one text stands for the other. */
    record Break(String method, String from, String to) {
    }

    final String region;
    final String sentence;
    final List<Break> breaks = new ArrayList<>();
    private final Test test;

    Edge(String region, String sentence, Test test) {
        this.region = region;
        this.sentence = sentence;
        this.test = test;
    }

    Edge brokenBy(String method, String from, String to) {
        breaks.add(new Break(method, from, to));
        return this;
    }

    /** Asks the test's questions; what the test itself does not expect to be thrown is a wrong answer. */
    void ask(Checks checks) {
        checks.at(name());
        try {
            test.ask(checks);
        } catch (RuntimeException e) {
            checks.holds("not to throw " + e, false);
        }
    }

    String name() {
        return region + ": \"" + sentence + "\"";
    }
}
