import java.io.IOException;

/** Every sentence of the document, from "Terms" to promise 41, with the boundary cases that it names. */
public final class EdgesTest {
    public static void main(String[] args) throws IOException {
        Edge e = new Edge();
        EdgesOfRefusals.hold(e);
        EdgesOfRows.hold(e);
        EdgesOfTexts.hold(e);
        EdgesOfActs.hold(e);
        EdgesOfForetold.hold(e);
        EdgesOfFits.hold(e);
        EdgesOfAsked.hold(e);
        e.end();
    }
}
