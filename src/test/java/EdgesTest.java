/** All promises, sentence by sentence: each sentence of DOC.md that names an edge has a test of its own. */
public final class EdgesTest {
    public static void main(String[] args) {
        Check check = new Check("EdgesTest");
        for (Edges.Edge edge : Edges.all()) {
            int answers = Edges.go(edge, check);
            check.due(edge + " is looked at", answers > 0);
        }
        check.end();
    }
}
