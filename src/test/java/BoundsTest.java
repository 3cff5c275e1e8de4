import java.io.IOException;

/** Each sentence of the document, with a test that fails if it does not hold; the boundaries above all. */
public final class BoundsTest {
    public static void main(String[] args) throws IOException {
        Document.read();
        BoundsOfTerms.run();
        BoundsOfCalls.run();
        BoundsOfSeconds.run();
        BoundsOfPromises.run();
        Document.end("# SegmentYard", "## The public face", "## Not promised");
        Due.end();
    }
}
