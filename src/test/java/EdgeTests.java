import java.io.IOException;

/** The edges of all promises, and of the sections under 'Terms'. */
final class EdgeTests {
    private EdgeTests() {
    }

    public static void main(String[] args) throws IOException {
        Edge.open();
        TermEdges.all();
        TextEdges.all();
        WallEdges.all();
        BillEdges.all();
        BillCallEdges.all();
        PhotographEdges.all();
        PlaceEdges.all();
        ImageEdges.all();
        Edge.end();
        Due.end("EdgeTests");
    }
}
