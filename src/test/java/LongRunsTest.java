/** Promises 1 to 35, each in a run of 512 calls on one object. */
public final class LongRunsTest {
    public static void main(String[] args) {
        Edges.run(LongRuns.class);
        Edges.end("LongRunsTest");
    }
}
