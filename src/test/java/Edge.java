import java.util.function.IntPredicate;

/** Holds the class to sentences of the document: each wrong answer is told with the sentence that it breaks. */
final class Edge {
    private final Check check;
    private String held = "";

    Edge(String name) {
        check = new Check(name);
    }

    /** What is asked from here on is due by this sentence (or a piece of one), word for word as the document has it. */
    void says(String part, String sentence) {
        held = part + ", \"" + sentence + "\": ";
        if (Document.isHere()) {
            check.due(held + "stands in the document", Document.says(part, sentence), true);
        }
    }

    void due(String call, int got, int want) {
        check.due(held + call, got, want);
    }

    void due(String call, boolean got, boolean want) {
        check.due(held + call, got, want);
    }

    /** The last values that are allowed on both sides, and the first that are not. */
    void range(String call, IntPredicate may, int least, int most) {
        allowed(call, may, least, most);
        refused(call, may, least - 1, most + 1, Integer.MIN_VALUE, Integer.MAX_VALUE);
    }

    void allowed(String call, IntPredicate may, int... values) {
        for (int v : values) {
            due(call + " with " + v, may.test(v), true);
        }
    }

    void refused(String call, IntPredicate may, int... values) {
        for (int v : values) {
            due(call + " with " + v, may.test(v), false);
        }
    }

    void close() {
        check.close();
    }
}
