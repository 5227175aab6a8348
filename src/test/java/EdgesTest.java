/** Every sentence of the document that names a boundary case, under its promise's number. */
public final class EdgesTest {
    private static final int LAST_PROMISE = 36;

    public static void main(String[] args) {
        Edge edge = new Edge();
        new EdgesOfTerms(edge).run();
        new EdgesOfBath(edge).run();
        new EdgesOfText(edge).run();
        new EdgesOfMinutes(edge).run();
        new EdgesOfLanes(edge).run();
        new EdgesOfNotes(edge).run();
        new EdgesOfState(edge).run();
        edge.end("EdgesTest", LAST_PROMISE);
    }
}
