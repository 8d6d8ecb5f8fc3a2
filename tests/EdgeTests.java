import java.io.IOException;

/** A test for each sentence of the document; the argument is the document. */
public final class EdgeTests {
    public static void main(String[] args) throws IOException {
        EdgesOfTrays.go();
        EdgesOfTexts.go();
        EdgesOfHours.go();
        EdgesOfGuesses.go();
        EdgesOfWeeks.go();
        Edge.end(args.length > 0 ? args[0] : "../shared/DOC.md");
        Kit.end("EdgeTests");
    }
}
