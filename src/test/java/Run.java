/** A run of calls on one object, counted, so that its last call is the object's 512th. */
final class Run {
    static final int MOST = 512;

    private final NewsCow x = new NewsCow();
    private int calls = 0;

    /** A run that has so many calls left. */
    static Run of(String text, int left) {
        Run run = new Run();
        run.herd(text);
        run.idle(left);
        return run;
    }

    int left() {
        return MOST - calls;
    }

    long call(Look.Call call) {
        calls++;
        return call.on(x);
    }

    void due(String name, Look.Call call, long want) {
        long got = call(call);
        Edges.due("call " + calls + ", " + name, got, want);
    }

    /** Calls that the answers below do not hang on. */
    void some(Look.Call... some) {
        for (Look.Call one : some) {
            call(one);
        }
    }

    void herd(String text) {
        for (char letter : text.toCharArray()) {
            call(y -> y.type(letter));
        }
        call(y -> y.herd());
    }

    /** Calls that change nothing, until so many are left. */
    void idle(int left) {
        while (left() > left) {
            call(y -> y.count(0));
        }
    }

    void end() {
        Edges.due("calls", calls, MOST);
    }
}
