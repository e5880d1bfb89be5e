/** Promises 1 to 10: cows, tasters, the tape, the herd as a text. */
public final class HerdTest {
    private static final Check check = new Check("HerdTest");

    public static void main(String[] args) {
        newObject();
        cow();
        taster();
        milkAndOf();
        at();
        noticesByKind();
        noticesByDay();
        noticesWrong();
        type();
        herd();
        herdFaults();
        herdBlanks();
        herdInPlaceOfAll();
        herdAfterFault();
        count();
        check.end();
    }

    private static void due(String call, long got, long want) {
        check.due(call, got, want);
    }

    private static void newObject() {
        NewsCow x = new NewsCow();
        int[] wants = {0, 0, 0, 0, NewsCow.NONE, 0, 0, 0};
        for (int what = 0; what < wants.length; what++) {
            due("1: count(" + what + ")", x.count(what), wants[what]);
        }
        due("1: seed", x.seed(1), 1);
        due("1: restore", x.restore(), NewsCow.NONE);
        due("1: undo", x.undo(), NewsCow.NONE);
        due("1: of(0)", x.of(0), NewsCow.BAD);
        due("1: at(0, 0)", x.at(0, 0), NewsCow.BAD);
        for (int sheet = 0; sheet < 4; sheet++) {
            due("1: drop", x.drop(sheet), NewsCow.NULL);
        }
        due("1: type", x.type('9'), 1);
    }

    private static void cow() {
        NewsCow x = new NewsCow();
        due("2: cow(0)", x.cow(0), NewsCow.BAD);
        due("2: cow(10)", x.cow(10), NewsCow.BAD);
        due("2: cow(-1)", x.cow(-1), NewsCow.BAD);
        for (int c = 0; c < 8; c++) {
            due("2: cow", x.cow(c + 1), c);
            due("2: count(0)", x.count(0), c + 1);
            due("2: count(3)", x.count(3), (1 << c + 1) - 1);
        }
        due("2: a ninth", x.cow(9), NewsCow.FULL);
        due("2: BAD ahead of FULL", x.cow(0), NewsCow.BAD);
        due("2: count(0)", x.count(0), 8);
        x = Check.of("12;p1");
        x.bear(1);
        x.answer(0, 1, 0);
        due("2: count(3)", x.count(3), 2);
        due("2: cow", x.cow(9), 2);
        due("2: it may be all", x.count(3), 7);
        due("2: the day stays", x.count(2), 1);
        due("2: the bearer stays", x.count(4), 1);
        due("2: nothing to be undone", x.undo(), NewsCow.NONE);
        x.answer(0, 1, 0);
        due("2: refused", x.cow(10), NewsCow.BAD);
        due("2: what is refused changes nothing", x.count(7), 1);
        due("2: what is refused changes nothing", x.count(3), 6);
    }

    private static void taster() {
        NewsCow x = Check.of("12;p1");
        x.answer(0, 1, 0);
        due("3: taster(-1, 1)", x.taster(-1, 1), NewsCow.BAD);
        due("3: taster(5, 1)", x.taster(5, 1), NewsCow.BAD);
        due("3: taster(0, 0)", x.taster(0, 0), NewsCow.BAD);
        due("3: taster(0, 10)", x.taster(0, 10), NewsCow.BAD);
        due("3: refused", x.count(7), 1);
        due("3: taster(4, 9)", x.taster(4, 9), 1);
        due("3: nothing to be undone", x.count(7), 0);
        due("3: it may be the same", x.count(3), 2);
        due("3: taster(3, 1)", x.taster(3, 1), 2);
        due("3: taster(2, 5)", x.taster(2, 5), 3);
        due("3: a fifth", x.taster(1, 1), NewsCow.FULL);
        due("3: BAD ahead of FULL", x.taster(5, 1), NewsCow.BAD);
        due("3: count(1)", x.count(1), 4);
    }

    private static void milkAndOf() {
        NewsCow x = Check.of("37");
        due("6: of(0)", x.of(0), 3);
        due("6: of(1)", x.of(1), 7);
        due("6: of(2)", x.of(2), NewsCow.BAD);
        due("6: of(-1)", x.of(-1), NewsCow.BAD);
        due("4: milk(1, 9)", x.milk(1, 9), 7);
        due("4: milk(1, 1)", x.milk(1, 1), 9);
        due("4: milk(1, 1)", x.milk(1, 1), 1);
        due("4: milk(2, 1)", x.milk(2, 1), NewsCow.BAD);
        due("4: milk(-1, 1)", x.milk(-1, 1), NewsCow.BAD);
        due("4: milk(0, 0)", x.milk(0, 0), NewsCow.BAD);
        due("4: milk(0, 10)", x.milk(0, 10), NewsCow.BAD);
        due("6: of(0)", x.of(0), 3);
        due("6: of(1)", x.of(1), 1);
        due("4: count(5)", x.count(5), 4);
    }

    private static void at() {
        NewsCow x = Check.of("1;p1,d9,f4,s7");
        for (int t = 0; t < 4; t++) {
            due("5: kind", x.at(t, 0), t);
            due("5: fine", x.at(t, 1), new int[] {1, 9, 4, 7}[t]);
        }
        due("5: at(0, 2)", x.at(0, 2), NewsCow.BAD);
        due("5: at(0, -1)", x.at(0, -1), NewsCow.BAD);
        due("5: at(-1, 0)", x.at(-1, 0), NewsCow.BAD);
        due("5: at(4, 0)", x.at(4, 0), NewsCow.BAD);
        due("5: poet", Check.of("1;o3").at(0, 0), 4);
    }

    private static void noticesByKind() {
        NewsCow x = Check.of("2413;p1,d2,f2");
        due("7: plain", Check.noticing(x, 0, 5), 5);
        due("7: plain, all", Check.noticing(x, 0, 15), 15);
        due("7: dull, just as much", Check.noticing(x, 1, 0b1101), 0b1000);
        due("7: dull, 4 * 2 of 10", Check.noticing(x, 1, 15), 0);
        due("7: dull, 2 * 2 of 6", Check.noticing(x, 1, 3), 2);
        due("7: dull, alone", Check.noticing(x, 1, 4), 4);
        due("7: fanciful, 2 of 2", Check.noticing(x, 2, 9), 9);
        due("7: fanciful, 3 of 2", Check.noticing(x, 2, 7), 15);
        x = Check.of("11;d9");
        due("7: dull, very fine", Check.noticing(x, 0, 3), 3);
        x = Check.of("19;d9");
        due("7: dull, 9 of 10", Check.noticing(x, 0, 3), 2);
        x = Check.of("18;d9");
        due("7: dull, 9 of 9", Check.noticing(x, 0, 3), 3);
    }

    private static void noticesByDay() {
        NewsCow x = Check.of("11;s2,o1,p1");
        int[] sleepy = {0, 1, 1, 0, 1, 1, 0};
        int[] poet = {1, 2, 1, 2, 1, 2, 1};
        int[] poetOfBoth = {3, 0, 3, 0, 3, 0, 3};
        for (int day = 0; day < sleepy.length; day++) {
            due("7: sleepy, day " + day, Check.noticing(x, 0, 1), sleepy[day]);
            due("7: poet, day " + day, Check.noticing(x, 1, 1), poet[day]);
            due("7: poet of both, day " + day, Check.noticing(x, 1, 3), poetOfBoth[day]);
            x.answer(2, 1, 1);
        }
        x = Check.of("12;s1,p1");
        x.answer(1, 1, 1);
        due("7: sleepy as dull", Check.noticing(x, 0, 3), 0);
        due("7: sleepy as dull, alone", Check.noticing(x, 0, 2), 2);
    }

    private static void noticesWrong() {
        NewsCow x = Check.of("111;p1");
        due("7: notices(1, 1, 0)", x.notices(1, 1, 0), NewsCow.BAD);
        due("7: notices(-1, 1, 0)", x.notices(-1, 1, 0), NewsCow.BAD);
        due("7: notices(0, 0, 0)", x.notices(0, 0, 0), NewsCow.BAD);
        due("7: notices(0, 8, 0)", x.notices(0, 8, 0), NewsCow.BAD);
        due("7: notices(0, -1, 0)", x.notices(0, -1, 0), NewsCow.BAD);
        due("7: notices(0, 7, 3)", x.notices(0, 7, 3), NewsCow.BAD);
        due("7: notices(0, 7, -1)", x.notices(0, 7, -1), NewsCow.BAD);
        due("7: notices(0, 7, 2)", x.notices(0, 7, 2), 1);
    }

    private static void type() {
        NewsCow x = new NewsCow();
        due("8: type(31)", x.type(31), NewsCow.BAD);
        due("8: type(127)", x.type(127), NewsCow.BAD);
        due("8: type(-1)", x.type(-1), NewsCow.BAD);
        due("8: type(65585), the lowest bits of which are a digit", x.type(65585), NewsCow.BAD);
        for (int k = 1; k <= 40; k++) {
            due("8: type", x.type(k == 1 ? 126 : 32), k);
        }
        due("8: a forty-first", x.type(32), NewsCow.FULL);
        due("8: BAD ahead of FULL", x.type(31), NewsCow.BAD);
        due("9: empty then", x.herd(), -20);
        due("8: type", x.type(32), 1);
    }

    private static void herd() {
        due("9: one cow", Check.herd(new NewsCow(), "1"), 1);
        due("9: eight cows", Check.herd(new NewsCow(), "12345678!;p1,d2,f3,o9"), 8);
        NewsCow x = Check.of("19!5;o9,s1");
        due("9: of(0)", x.of(0), 1);
        due("9: of(1)", x.of(1), 9);
        due("9: of(2)", x.of(2), 5);
        due("9: the bearer", x.count(4), 1);
        due("9: tasters", x.count(1), 2);
        due("9: at(0, 0)", x.at(0, 0), 4);
        due("9: at(0, 1)", x.at(0, 1), 9);
        due("9: at(1, 0)", x.at(1, 0), 3);
        due("9: at(1, 1)", x.at(1, 1), 1);
        due("9: empty then", x.herd(), -20);
        due("9: first cow", Check.of("1!2").count(4), 0);
        due("9: last cow", Check.of("12345678!").count(4), 7);
        due("9: none", Check.of("12").count(4), NewsCow.NONE);
    }

    private static void fault(String text, int place) {
        NewsCow x = Check.of("12!3;p1");
        x.answer(0, 1, 0);
        due("9: '" + text + "'", Check.herd(x, text), -20 - place);
        due("9: all else stays", x.count(0), 3);
        due("9: all else stays", x.count(1), 1);
        due("9: all else stays", x.count(2), 1);
        due("9: all else stays", x.count(3), 6);
        due("9: all else stays", x.count(4), 1);
        due("9: all else stays", x.count(7), 1);
        due("9: the tape is empty", x.type('1'), 1);
    }

    private static void herdFaults() {
        fault("", 0);
        fault("0", 0);
        fault("!", 0);
        fault("!1", 0);
        fault(";p1", 0);
        fault(",", 0);
        fault("10", 1);
        fault("1p", 1);
        fault("1,2", 1);
        fault("1!!", 2);
        fault("1!2!", 3);
        fault("1!2!;p1", 3);
        fault("123456789", 8);
        fault("12345678!9", 9);
        fault("1;", 2);
        fault("1;1", 2);
        fault("1;;", 2);
        fault("1;P1", 2);
        fault("1;q1", 2);
        fault("1;p", 3);
        fault("1;p0", 3);
        fault("1;pp", 3);
        fault("1;p12", 4);
        fault("1;p1;", 4);
        fault("1;p1!", 4);
        fault("1;p1d2", 4);
        fault("1;p1,", 5);
        fault("1;p1,,", 5);
        fault("1;p1,d", 6);
        fault("1;p1,d2,f3,s", 12);
        fault("1;p1,d2,f3,s4,", 13);
        fault("1;p1,d2,f3,s4,o5", 13);
        fault("1;p1,d2,f3,s4x", 13);
    }

    private static void herdBlanks() {
        NewsCow x = new NewsCow();
        due("9: blanks", Check.herd(x, "  1 2 ! 3 ;  p 1 , o  9  "), 3);
        due("9: blanks, bearer", x.count(4), 1);
        due("9: blanks, tasters", x.count(1), 2);
        due("9: blanks, fine", x.at(1, 1), 9);
        fault(" ", 1);
        fault("   ", 3);
        fault("  x", 2);
        fault(" 1 0", 3);
        fault("1 ;  ", 5);
        fault("1 ;  x", 5);
        fault("1; p ", 5);
        fault("1; p  0", 6);
        fault("1 ! !", 4);
        fault("1;p1 ,  ", 8);
        String blanks = "                                       ";
        due("9: 39 blanks and a cow", Check.herd(new NewsCow(), blanks + "5"), 1);
        fault(blanks + "0", 39);
        fault(blanks + " ", 40);
    }

    private static void herdInPlaceOfAll() {
        NewsCow x = Check.of("12!3;p1,d2");
        x.seed(77);
        x.sheet(2, 1, 5);
        x.answer(0, 1, 0);
        x.drink(0, 1);
        due("9: herd", Check.herd(x, "45"), 2);
        due("9: no tasters", x.count(1), 0);
        due("9: day 0", x.count(2), 0);
        due("9: it may be all", x.count(3), 3);
        due("9: no bearer", x.count(4), NewsCow.NONE);
        due("9: nothing to be undone", x.undo(), NewsCow.NONE);
        due("9: the draw stays", x.seed(1), 77);
        due("9: sheets stay", x.drop(2), 5);
        due("9: milk", x.count(5), 9);
        due("9: cows come behind it", x.cow(1), 2);
        due("9: tasters come behind it", x.taster(0, 1), 0);
    }

    private static void herdAfterFault() {
        NewsCow x = new NewsCow();
        due("9: a fault", Check.herd(x, "123!;p1,x"), -28);
        due("9: nothing of it stays", Check.herd(x, "45"), 2);
        due("9: no bearer", x.count(4), NewsCow.NONE);
        due("9: no tasters", x.count(1), 0);
    }

    private static void count() {
        NewsCow x = Check.of("12!34;p1,d9");
        x.answer(0, 12, 1);
        int[] wants = {4, 2, 1, 12, 1, 10, 7, 1};
        for (int what = 0; what < wants.length; what++) {
            due("10: count(" + what + ")", x.count(what), wants[what]);
        }
        due("10: count(8)", x.count(8), NewsCow.BAD);
        due("10: count(-1)", x.count(-1), NewsCow.BAD);
        x.answer(0, 1, 1);
        due("10: it may be none", x.count(3), 0);
        due("10: milk of none", x.count(6), 0);
    }
}
