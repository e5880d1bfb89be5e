/** Promises 27 and 28: images. */
public final class ImageTest {
    private static final Check check = new Check("ImageTest");

    public static void main(String[] args) {
        none();
        allIsKept();
        allThatMayBeUndone();
        sheetsAndTapeAreNot();
        imageStandsByItself();
        imageOfNothing();
        check.end();
    }

    private static void due(String call, long got, long want) {
        check.due(call, got, want);
    }

    private static void none() {
        NewsCow x = Check.of("12;p1");
        due("28: none", x.restore(), NewsCow.NONE);
        due("28: nothing changes", x.count(0), 2);
        due("27: image", x.image(), 1);
        due("28: restore", x.restore(), 1);
        due("28: again", x.restore(), 1);
    }

    private static void allIsKept() {
        NewsCow x = Check.of("12!3;p1,d2");
        x.seed(9);
        x.answer(0, 6, 1);
        x.bear(2);
        x.image();
        x.undo();
        x.undo();
        x.milk(0, 9);
        x.seed(8);
        x.cow(5);
        x.taster(4, 9);
        x.drift(20);
        x.restore();
        int[] wants = {3, 2, 1, 6, 2, 6, 5, 2};
        for (int what = 0; what < wants.length; what++) {
            due("28: count(" + what + ")", x.count(what), wants[what]);
        }
        due("28: milk", x.of(0), 1);
        due("28: the draw", x.seed(7), 9);
        due("28: taster", x.at(1, 1), 2);
        due("28: no third taster", x.at(2, 0), NewsCow.BAD);
        due("28: what was done may be undone", x.undo(), 1);
        due("28: the bearer", x.count(4), 1);
        due("28: and what was before it", x.undo(), 0);
        due("28: it may be all", x.count(3), 7);
        Check.herd(x, "5;o7,s8");
        due("28: a herd leaves it", x.restore(), 1);
        due("28: cows", x.count(0), 3);
        due("28: kind", x.at(0, 0), 0);
        due("28: fine", x.at(0, 1), 1);
        due("28: kind", x.at(1, 0), 1);
        due("28: fine", x.at(1, 1), 2);
    }

    private static void allThatMayBeUndone() {
        NewsCow x = Check.of("12345678;p1");
        for (int c = 0; c < 8; c++) {
            x.bear(c);
        }
        x.image();
        for (int c = 0; c < 8; c++) {
            x.bear(c == 7 ? NewsCow.NONE : c);
        }
        x.restore();
        for (int c = 6; c >= 0; c--) {
            due("28: undo", x.undo(), c + 1);
            due("28: the bearer", x.count(4), c);
        }
        due("28: undo", x.undo(), 0);
        due("28: no bearer", x.count(4), NewsCow.NONE);
    }

    private static void sheetsAndTapeAreNot() {
        NewsCow x = Check.of("12;p1");
        x.sheet(0, 2, 3);
        x.type('4');
        x.image();
        x.drop(0);
        x.sheet(1, 1, 2);
        x.type('5');
        x.restore();
        due("28: a dropped sheet stays so", x.drop(0), NewsCow.NULL);
        due("28: a new one too", x.drop(1), 2);
        due("28: the tape stays", x.herd(), 2);
        due("28: the tape", x.of(1), 5);
    }

    private static void imageStandsByItself() {
        NewsCow x = Check.of("123;p1");
        x.answer(0, 3, 1);
        x.image();
        x.restore();
        x.undo();
        x.milk(1, 9);
        x.bear(1);
        x.bear(2);
        x.restore();
        due("28: what is done behind it leaves it", x.of(1), 2);
        due("28: count(7)", x.count(7), 1);
        due("28: count(3)", x.count(3), 3);
        x.undo();
        due("28: undone", x.count(3), 7);
        due("28: no bearer", x.count(4), NewsCow.NONE);
        x.bear(0);
        x.image();
        x.bear(1);
        x.restore();
        due("27: the later one", x.count(4), 0);
    }

    private static void imageOfNothing() {
        NewsCow x = new NewsCow();
        due("27: image", x.image(), 1);
        Check.herd(x, "12;p1");
        due("28: restore", x.restore(), 1);
        due("28: no cows", x.count(0), 0);
        due("28: no tasters", x.count(1), 0);
        due("28: fewest", x.fewest(0), NewsCow.BAD);
    }
}
