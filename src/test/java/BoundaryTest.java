import java.io.IOException;

/** Each sentence of the document that names a boundary case, with a test of its own. */
public final class BoundaryTest {
    public static void main(String[] args) throws IOException {
        Sentences sentences = new Sentences();
        new ShapeEdges(sentences).all();
        new RoadEdges(sentences).all();
        new FollowEdges(sentences).all();
        new MeterEdges(sentences).all();
        new TapeEdges(sentences).all();
        new RuleEdges(sentences).all();
        new RefusedEdges(sentences).all();
        sentences.end("BoundaryTest");
    }
}
