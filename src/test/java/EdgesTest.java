/** Promises 1 to 38, sentence by sentence: what each of them says of an edge, at it, one before it and one behind it. */
public final class EdgesTest {
    public static void main(String[] args) {
        EdgeText.run();
        EdgeTape.run();
        EdgeNow.run();
        EdgeDays.run();
        EdgeCalls.run();
        EdgeAhead.run();
        EdgeNotes.run();
        Edges.end();
        Check.end("EdgesTest");
    }
}
