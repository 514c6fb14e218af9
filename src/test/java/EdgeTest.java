import java.io.IOException;

/** Each sentence of the document that names an edge has a test of its own, and none of its words is without one. */
public final class EdgeTest {
    private EdgeTest() {
    }

    public static void main(String[] args) throws IOException {
        Edges e = new Edges();
        new WoodEdges(e).test();
        new TextEdges(e).test();
        new ThoughtEdges(e).test();
        e.close();
    }
}
