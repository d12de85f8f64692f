/** Each sentence of the document's terms and promises by a test of its own: its edges, and what it refuses. */
public final class EdgesTest {
    public static void main(String[] args) {
        Edges edges = new Edges();
        new EdgesOfCells(edges).run();
        new EdgesOfCode(edges).run();
        new EdgesOfFail(edges).run();
        new EdgesOfGuess(edges).run();
        new EdgesOfPairs(edges).run();
        new EdgesOfChips(edges).run();
        new EdgesOfRefusals(edges).run();
        edges.end();
    }
}
