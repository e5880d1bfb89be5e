/** Promises 11 to 17: answered, drunk, forgotten, the bearer told, drifts, undone, the draw. */
public final class DoneTest {
    private static final Check check = new Check("DoneTest");

    public static void main(String[] args) {
        answer();
        drink();
        lastDay();
        forget();
        bear();
        driftByHand();
        driftByDrinks();
        driftWithout();
        driftWrong();
        undoOfEach();
        undoOfEight();
        undoAndDraw();
        seed();
        check.end();
    }

    private static void due(String call, long got, long want) {
        check.due(call, got, want);
    }

    private static void answer() {
        NewsCow x = Check.of("1234;p1,d2,f1,s9");
        due("11: answer(0, 7, 1)", x.answer(0, 7, 1), 7);
        due("11: the next day", x.count(2), 1);
        due("11: answer(0, 1, 0)", x.answer(0, 1, 0), 6);
        due("11: dull", x.answer(1, 6, 1), 4);
        due("11: sleepy on day 3", x.answer(3, 4, 0), 4);
        due("11: sleepy on day 4", x.answer(3, 4, 1), 4);
        due("11: it may be none", x.answer(0, 4, 0), 0);
        due("11: none stays none", x.answer(0, 4, 1), 0);
        due("11: count(7)", x.count(7), 7);
        due("11: count(2)", x.count(2), 7);
        due("11: answer(4, 1, 1)", x.answer(4, 1, 1), NewsCow.BAD);
        due("11: answer(-1, 1, 1)", x.answer(-1, 1, 1), NewsCow.BAD);
        due("11: answer(0, 0, 1)", x.answer(0, 0, 1), NewsCow.BAD);
        due("11: answer(0, 16, 1)", x.answer(0, 16, 1), NewsCow.BAD);
        due("11: answer(0, 1, 2)", x.answer(0, 1, 2), NewsCow.BAD);
        due("11: answer(0, 1, -1)", x.answer(0, 1, -1), NewsCow.BAD);
        due("11: refused changes nothing", x.count(7), 7);
        due("11: refused changes nothing", x.count(2), 7);
        x = Check.of("12;f1");
        due("11: fanciful notices it anyway", x.answer(0, 3, 0), 0);
    }

    private static void drink() {
        NewsCow x = Check.of("123!;p1,o1");
        due("12: drink(0, 3)", x.drink(0, 3), 0);
        due("12: it may be", x.count(3), 4);
        due("12: the next day", x.count(2), 1);
        due("12: poet on an odd day", x.drink(1, 4), 0);
        due("12: it may be", x.count(3), 4);
        due("12: drink(0, 4)", x.drink(0, 4), 1);
        due("12: drink(2, 4)", x.drink(2, 4), NewsCow.BAD);
        due("12: drink(0, 0)", x.drink(0, 0), NewsCow.BAD);
        due("12: drink(0, 8)", x.drink(0, 8), NewsCow.BAD);
        due("12: count(2)", x.count(2), 3);
        x.bear(NewsCow.NONE);
        due("12: not told", x.drink(0, 4), NewsCow.NOT);
        due("12: BAD ahead of NOT", x.drink(0, 8), NewsCow.BAD);
        due("12: refused changes nothing", x.count(2), 3);
        due("12: count(7)", x.count(7), 4);
        x = Check.of("12!3;p1");
        x.answer(0, 2, 0);
        due("12: the bearer may be one that it may not be", x.drink(0, 2), 1);
        due("12: it may be none then", x.count(3), 0);
    }

    /** A herd of eight with a bearer, some days short of the last one. */
    private static NewsCow lateHerd(int day) {
        NewsCow x = Check.of("12345678!;p1");
        for (int k = 0; k < day / 40; k++) {
            x.drift(40);
        }
        for (int rest = day - x.count(2); rest > 0; rest--) {
            x.drink(0, 1);
        }
        due("day", x.count(2), day);
        return x;
    }

    private static void lastDay() {
        NewsCow x = lateHerd(9998);
        due("15: 2 would be too many", x.drift(2), NewsCow.FULL);
        due("15: 40 would be too many", x.drift(40), NewsCow.FULL);
        due("15: BAD ahead of FULL", x.drift(41), NewsCow.BAD);
        due("15: 8 may be undone", x.count(7), 8);
        due("11: to day 9999", x.answer(0, 255, 1) >= 0 ? 1 : 0, 1);
        due("11: day 9999", x.count(2), 9999);
        int draw = x.seed(5);
        due("11: FULL", x.answer(0, 255, 1), NewsCow.FULL);
        due("11: BAD ahead of FULL", x.answer(0, 256, 1), NewsCow.BAD);
        due("12: FULL", x.drink(0, 1), NewsCow.FULL);
        due("12: BAD ahead of FULL", x.drink(1, 1), NewsCow.BAD);
        due("15: FULL", x.drift(1), NewsCow.FULL);
        due("15: the draw stays", x.seed(draw), 5);
        due("day 9999 stays", x.count(2), 9999);
        x.bear(NewsCow.NONE);
        due("12: FULL ahead of NOT", x.drink(0, 1), NewsCow.FULL);
        due("15: FULL, though nothing would be drunk", x.drift(1), NewsCow.FULL);
        x.undo();
        due("16: undone", x.undo(), 6);
        due("16: day 9998", x.count(2), 9998);
        due("15: one more", x.drift(1) >= 0 ? 1 : 0, 1);
        due("9: a herd brings day 0", Check.herd(x, "1"), 1);
        due("9: day 0", x.count(2), 0);
    }

    private static void forget() {
        NewsCow x = new NewsCow();
        due("13: no cows", x.forget(), NewsCow.NOT);
        x = Check.of("123;p1");
        due("13: all", x.forget(), NewsCow.NOT);
        due("13: nothing done", x.count(7), 0);
        x.answer(0, 1, 0);
        due("13: forget", x.forget(), 3);
        due("13: all", x.count(3), 7);
        due("13: the day stays", x.count(2), 1);
        due("13: count(7)", x.count(7), 2);
        due("13: all", x.forget(), NewsCow.NOT);
    }

    private static void bear() {
        NewsCow x = Check.of("123;p1");
        due("14: bear(3)", x.bear(3), NewsCow.BAD);
        due("14: bear(-1)", x.bear(-1), NewsCow.BAD);
        due("14: bear(-5)", x.bear(-5), NewsCow.BAD);
        due("14: bear(NONE)", x.bear(NewsCow.NONE), NewsCow.NOT);
        due("14: nothing done", x.count(7), 0);
        due("14: bear(2)", x.bear(2), NewsCow.NONE);
        due("14: bear(2)", x.bear(2), NewsCow.NOT);
        due("14: bear(0)", x.bear(0), 2);
        due("14: count(4)", x.count(4), 0);
        due("14: bear(NONE)", x.bear(NewsCow.NONE), 0);
        due("14: count(7)", x.count(7), 3);
        due("14: it may be all", x.count(3), 7);
        due("14: the day stays", x.count(2), 0);
    }

    private static void driftByHand() {
        // 1103527590 by 65536 is 16838, left over by 2 is 0; by 128 is 8621309, left over by 8 is 5
        NewsCow x = Check.of("123!;p1,o1");
        due("15: drift(1)", x.drift(1), 5);
        due("15: day 1", x.count(2), 1);
        due("17: the draw", x.seed(1103527590), 1103527590);
        // 377401575 by 65536 is 5758, left over 0; by 128 is 2948449, left over by 8 is 1
        due("15: drift(1)", x.drift(1), 4);
        due("17: the draw", x.seed(377401575), 377401575);
        // 662824084 by 65536 is 10113, left over 1: the poet; by 128 is 5178313, left over by 8 is 1
        due("15: drift(1)", x.drift(1), 4);
        due("15: day 3", x.count(2), 3);
        due("17: the draw", x.seed(662824084), 662824084);
        due("16: undo", x.undo(), 2);
        due("16: undo", x.undo(), 1);
        due("16: it may be", x.count(3), 5);
        due("17: the draw", x.seed(1103527590), 1103527590);
        due("15: drift(2)", x.drift(2), 4);
        due("17: the draw", x.seed(1), 662824084);
    }

    /** Each drift is what the document reckons, drunk on a herd of the same kind. */
    private static void driftByDrinks() {
        NewsCow drifting = Check.of("1234!567;p1,d3,s9");
        NewsCow drinking = Check.of("1234!567;p1,d3,s9");
        long draw = 1;
        for (int time = 0; time < 100; time++) {
            draw = (draw * 1103515245 + 12345) % (1L << 31);
            int mix = (int) (draw / 128 % 128);
            if (mix != 0) {
                drinking.drink((int) (draw / 65536 % 3), mix);
            }
            due("15: drift " + time, drifting.drift(1), drinking.count(3));
            due("15: the day", drifting.count(2), drinking.count(2));
            due("15: forget", drifting.forget(), drinking.forget());
        }
        due("17: the draw", drifting.seed(1), draw);
    }

    private static void driftWithout() {
        NewsCow x = new NewsCow();
        due("15: no cows, no tasters", x.drift(40), 0);
        due("15: 8 may be undone", x.count(7), 8);
        due("15: day 0", x.count(2), 0);
        x = new NewsCow();
        x.drift(1);
        due("15: the draw goes on", x.seed(1), 1103527590);
        x = Check.of("123;p1");
        due("15: no bearer", x.drift(3), 7);
        due("15: day 0", x.count(2), 0);
        due("15: the draw goes on", x.seed(1), 662824084);
        due("15: count(7)", x.count(7), 3);
        x = Check.of("1!");
        due("15: no tasters", x.drift(3), 1);
        due("15: the draw goes on", x.seed(1), 662824084);
        due("15: day 0", x.count(2), 0);
        // one cow: by 128, left over by 2: 8621309 is odd; 2948449 odd; 5178313 odd
        x = Check.of("1!;p1");
        due("15: one cow", x.drift(3), 1);
        due("15: day 3", x.count(2), 3);
        // a draw that leaves no mix: seed 0 becomes 12345, by 128 is 96, left over by 2 to the 5 is 0
        x = Check.of("1!2345;p1");
        x.seed(0);
        due("15: no mix", x.drift(1), 31);
        due("15: nothing drunk", x.count(2), 0);
        due("15: it may be undone", x.count(7), 1);
        due("17: the draw", x.seed(1), 12345);
    }

    private static void driftWrong() {
        NewsCow x = Check.of("1!2;p1");
        due("15: drift(0)", x.drift(0), NewsCow.BAD);
        due("15: drift(-1)", x.drift(-1), NewsCow.BAD);
        due("15: drift(41)", x.drift(41), NewsCow.BAD);
        due("15: drift(MAX)", x.drift(Integer.MAX_VALUE), NewsCow.BAD);
        due("15: the draw stays", x.seed(1), 1);
        due("15: drift(40)", x.drift(40) >= 0 ? 1 : 0, 1);
    }

    private static void undoOfEach() {
        NewsCow x = Check.of("1234;p1");
        due("16: none", x.undo(), NewsCow.NONE);
        x.answer(0, 3, 1);
        x.bear(2);
        x.drink(0, 8);
        x.forget();
        x.milk(0, 9);
        x.bear(3);
        due("16: undo of bear", x.undo(), 4);
        due("16: the bearer", x.count(4), 2);
        due("16: it may be", x.count(3), 15);
        due("16: undo of forget", x.undo(), 3);
        due("16: it may be", x.count(3), 3);
        due("16: day 2", x.count(2), 2);
        due("16: undo of drink", x.undo(), 2);
        due("16: day 1", x.count(2), 1);
        due("16: undo of bear", x.undo(), 1);
        due("16: the bearer", x.count(4), NewsCow.NONE);
        due("16: undo of answer", x.undo(), 0);
        due("16: it may be", x.count(3), 15);
        due("16: day 0", x.count(2), 0);
        due("16: none", x.undo(), NewsCow.NONE);
        due("16: milk stays", x.of(0), 9);
    }

    private static void undoOfEight() {
        NewsCow x = Check.of("12345678;p1");
        for (int c = 0; c < 8; c++) {
            x.answer(0, 1 << c, 0);
            due("10: count(7)", x.count(7), c + 1);
        }
        x.answer(0, 1, 1);
        x.bear(4);
        due("10: 8 at most", x.count(7), 8);
        for (int left = 7; left >= 0; left--) {
            due("16: undo", x.undo(), left);
        }
        due("16: older ones are lost", x.undo(), NewsCow.NONE);
        due("16: two are not undone", x.count(3), 252);
        due("16: day 2", x.count(2), 2);
        x.bear(1);
        due("16: anew", x.undo(), 0);
        x = Check.of("1!2;p1");
        x.drift(40);
        due("15: each by itself", x.count(7), 8);
    }

    private static void undoAndDraw() {
        NewsCow x = Check.of("12;p1");
        x.seed(100);
        x.answer(0, 1, 1);
        x.seed(200);
        due("16: undo", x.undo(), 0);
        due("16: the draw is as ahead of it", x.seed(300), 100);
        x.bear(1);
        x.seed(400);
        x.bear(0);
        x.seed(500);
        due("16: undo", x.undo(), 1);
        due("16: the draw", x.seed(600), 400);
        due("16: undo", x.undo(), 0);
        due("16: the draw", x.seed(1), 300);
    }

    private static void seed() {
        NewsCow x = new NewsCow();
        due("17: seed(7)", x.seed(7), 1);
        due("17: seed(-1)", x.seed(-1), NewsCow.BAD);
        due("17: seed(MIN)", x.seed(Integer.MIN_VALUE), NewsCow.BAD);
        due("17: seed(0)", x.seed(0), 7);
        due("17: seed(MAX)", x.seed(Integer.MAX_VALUE), 0);
        due("17: nothing to be undone", x.count(7), 0);
        x.drift(1);
        due("17: of 31 bits", x.seed(1), (int) ((2147483647L * 1103515245L + 12345L) & 2147483647L));
    }
}
