import java.io.IOException;

/** The boundaries that the document names, sentence by sentence: each has a test of its own. */
final class EdgeTest {
    public static void main(String[] args) throws IOException {
        Edges edges = new Edges();
        new EdgesOfTexts(edges).test();
        new EdgesOfFaults(edges).test();
        new EdgesOfRuns(edges).test();
        new EdgesOfSight(edges).test();
        new EdgesOfTrials(edges).test();
        new EdgesOfFilms(edges).test();
        new EdgesOfImages(edges).test();
        edges.finish("EdgeTest");
    }
}
