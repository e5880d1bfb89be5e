import java.lang.management.ManagementFactory;

/** All calls of a run live in one room: an object is small, and its calls make nothing more. */
public final class RoomTest {
    private static final Check check = new Check("RoomTest");
    private static final com.sun.management.ThreadMXBean THREADS =
        (com.sun.management.ThreadMXBean) ManagementFactory.getThreadMXBean();

    public static void main(String[] args) {
        long self = Thread.currentThread().getId();
        play(new NewsCow());
        long before = THREADS.getThreadAllocatedBytes(self);
        NewsCow x = new NewsCow();
        long made = THREADS.getThreadAllocatedBytes(self);
        play(x);
        long played = THREADS.getThreadAllocatedBytes(self);
        System.out.println("RoomTest: " + (made - before) + " bytes an object, " + (played - made) + " by its calls");
        check.holds("an object is small", made - before < 20000);
        check.holds("calls make nothing", played - made < 2000);
        check.end();
    }

    private static void play(NewsCow x) {
        herd(x);
        for (int round = 0; round < 14; round++) {
            for (int taster = 0; taster < 4; taster++) {
                x.fewest(taster);
                x.next(taster);
                x.once(taster, 0);
                x.halves(taster, 0);
                x.sheet(taster, taster, 24);
                x.film(taster, 24, taster, taster, 0);
                x.fits(taster, taster, taster, 0, 6, 3);
            }
            x.single(-1);
            x.drift(40);
            x.image();
            x.undo();
            x.restore();
            x.forget();
        }
    }

    private static void herd(NewsCow x) {
        int[] letters = {'1', '2', '3', '4', '!', '5', '6', '7', '8', ';', 'p', '1', ',', 'd', '3', ',', 'f', '2', ',', 's', '9'};
        for (int letter : letters) {
            x.type(letter);
        }
        x.herd();
    }
}
