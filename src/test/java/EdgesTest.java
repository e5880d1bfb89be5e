/** Promises 1 to 35: one test for each sentence of the document that names a boundary case. */
public final class EdgesTest {
    public static void main(String[] args) {
        Edges.run(Edges01To10.class);
        Edges.run(Edges11To17.class);
        Edges.run(Edges18To28.class);
        Edges.run(Edges29To35.class);
        Edges.end("EdgesTest");
    }
}
