/** Boundary cases of promises 1 to 10: cows, tasters, the tape, herds as texts. */
final class Edges01To10 {
    private static final int MAX = Edges.MAX;
    private static final int MIN = Edges.MIN;
    private static final String FORTY_BLANKS = " ".repeat(40);

    private Edges01To10() {
    }

    private static void due(String call, long got, long want) {
        Edges.due(call, got, want);
    }

    private static NewsCow threeCows() {
        return Check.of("123;p1");
    }

    // ---- 1 a new object

    @Says("No herd.")
    static void promise01NoCowsNoTasters() {
        Edges.counts(new NewsCow(), 0, 0, 0, 0, NewsCow.NONE, 0, 0, 0);
        due("of(0)", new NewsCow().of(0), NewsCow.BAD);
        due("at(0, 0)", new NewsCow().at(0, 0), NewsCow.BAD);
    }

    static void promise01TheDrawIsOneAtFirst() {
        due("seed(5)", new NewsCow().seed(5), 1);
    }

    static void promise01TheTapeIsEmptyAtFirst() {
        due("type(' ')", new NewsCow().type(' '), 1);
        due("herd()", new NewsCow().herd(), -20);
    }

    static void promise01SheetsHoldNothingAtFirst() {
        for (int sheet = 0; sheet < 4; sheet++) {
            due("drop", new NewsCow().drop(sheet), NewsCow.NULL);
        }
    }

    static void promise01NoImageAndNoPastAtFirst() {
        due("restore()", new NewsCow().restore(), NewsCow.NONE);
        due("undo()", new NewsCow().undo(), NewsCow.NONE);
    }

    static void promise01ObjectsAreApart() {
        NewsCow one = new NewsCow();
        NewsCow other = new NewsCow();
        one.cow(3);
        one.taster(0, 1);
        one.type('1');
        one.sheet(0, 0, 5);
        one.image();
        one.answer(0, 1, 1);
        one.seed(9);
        Edges.counts(other, 0, 0, 0, 0, NewsCow.NONE, 0, 0, 0);
        due("restore()", other.restore(), NewsCow.NONE);
        due("drop(0)", other.drop(0), NewsCow.NULL);
        due("seed(1)", other.seed(1), 1);
        due("type", other.type('1'), 1);
    }

    // ---- 2 cow

    static void promise02MilkOfOneAndNineHolds() {
        NewsCow x = new NewsCow();
        due("cow(1)", x.cow(1), 0);
        due("cow(9)", x.cow(9), 1);
        due("of(0)", x.of(0), 1);
        due("of(1)", x.of(1), 9);
    }

    @Says("BAD;")
    static void promise02MilkBelowOneIsBad() {
        Edges.bad("cow(0)", Edges::rich, x -> x.cow(0));
        Edges.bad("cow(-1)", Edges::rich, x -> x.cow(-1));
        Edges.bad("cow(MIN)", Edges::rich, x -> x.cow(MIN));
    }

    @Says("BAD;")
    static void promise02MilkAboveNineIsBad() {
        Edges.bad("cow(10)", Edges::rich, x -> x.cow(10));
        Edges.bad("cow(MAX)", Edges::rich, x -> x.cow(MAX));
        Edges.bad("cow(10), no herd", NewsCow::new, x -> x.cow(10));
    }

    @Says("FULL: 8.")
    static void promise02TheEighthHoldsTheNinthIsFull() {
        NewsCow x = Check.of("1234567");
        due("the eighth", x.cow(8), 7);
        due("the ninth", x.cow(9), NewsCow.FULL);
        due("count(0)", x.count(0), 8);
        Edges.refused("cow(1)", Edges::full, NewsCow.FULL, y -> y.cow(1));
        Edges.refused("cow(9)", Edges::full, NewsCow.FULL, y -> y.cow(9));
    }

    static void promise02BadAheadOfFull() {
        Edges.bad("cow(0)", Edges::full, x -> x.cow(0));
        Edges.bad("cow(10)", Edges::full, x -> x.cow(10));
    }

    @Says("(it MAY BE all then).")
    static void promise02ItMayBeAllThen() {
        NewsCow x = threeCows();
        x.answer(0, 1, 1);
        due("cow(4)", x.cow(4), 3);
        due("it may be", x.count(3), 15);
        x.answer(0, 1, 1);
        x.answer(0, 1, 0);
        due("it may be none", x.count(3), 0);
        x.cow(5);
        due("it may be", x.count(3), 31);
    }

    @Says(terms = "a HERD, a new cow, TASTER leave nothing to be UNDONE.")
    static void promise02ANewCowLeavesNothingToBeUndone() {
        NewsCow x = threeCows();
        x.bear(1);
        x.answer(0, 1, 0);
        x.cow(9);
        due("count(7)", x.count(7), 0);
        due("undo()", x.undo(), NewsCow.NONE);
        due("the bearer stays", x.count(4), 1);
        due("the day stays", x.count(2), 1);
    }

    static void promise02TheFirstCowBehindTastersAndDrifts() {
        NewsCow x = new NewsCow();
        x.taster(0, 1);
        x.drift(40);
        due("cow(7)", x.cow(7), 0);
        Edges.counts(x, 1, 1, 0, 1, NewsCow.NONE, 7, 7, 0);
    }

    // ---- 3 taster

    static void promise03KindsZeroAndFourFineOneAndNineHold() {
        NewsCow x = new NewsCow();
        due("taster(0, 1)", x.taster(0, 1), 0);
        due("taster(4, 9)", x.taster(4, 9), 1);
        due("at(0, 0)", x.at(0, 0), 0);
        due("at(0, 1)", x.at(0, 1), 1);
        due("at(1, 0)", x.at(1, 0), 4);
        due("at(1, 1)", x.at(1, 1), 9);
    }

    private static NewsCow twoTasters() {
        NewsCow x = Check.of("12!3;p1,d2");
        Edges.fillSheets(x);
        x.answer(0, 3, 1);
        return x;
    }

    @Says("BAD;")
    static void promise03KindBelowZeroOrAboveFourIsBad() {
        Edges.bad("taster(-1, 1)", Edges01To10::twoTasters, x -> x.taster(-1, 1));
        Edges.bad("taster(5, 1)", Edges01To10::twoTasters, x -> x.taster(5, 1));
        Edges.bad("taster(MIN, 1)", Edges01To10::twoTasters, x -> x.taster(MIN, 1));
        Edges.bad("taster(MAX, 1)", Edges01To10::twoTasters, x -> x.taster(MAX, 1));
    }

    @Says("BAD;")
    static void promise03FineBelowOneOrAboveNineIsBad() {
        Edges.bad("taster(0, 0)", Edges01To10::twoTasters, x -> x.taster(0, 0));
        Edges.bad("taster(0, -1)", Edges01To10::twoTasters, x -> x.taster(0, -1));
        Edges.bad("taster(0, 10)", Edges01To10::twoTasters, x -> x.taster(0, 10));
        Edges.bad("taster(4, MAX)", Edges01To10::twoTasters, x -> x.taster(4, MAX));
        Edges.bad("taster(4, MIN)", Edges01To10::twoTasters, x -> x.taster(4, MIN));
    }

    @Says("FULL: 4.")
    static void promise03TheFourthHoldsTheFifthIsFull() {
        NewsCow x = Check.of("1;p1,d2,f3");
        due("the fourth", x.taster(3, 4), 3);
        due("the fifth", x.taster(4, 5), NewsCow.FULL);
        due("count(1)", x.count(1), 4);
        Edges.refused("taster(0, 1)", Edges::full, NewsCow.FULL, y -> y.taster(0, 1));
    }

    static void promise03BadAheadOfFull() {
        Edges.bad("taster(-1, 1)", Edges::full, x -> x.taster(-1, 1));
        Edges.bad("taster(5, 1)", Edges::full, x -> x.taster(5, 1));
        Edges.bad("taster(0, 0)", Edges::full, x -> x.taster(0, 0));
        Edges.bad("taster(0, 10)", Edges::full, x -> x.taster(0, 10));
    }

    @Says(terms = "a HERD, a new cow, TASTER leave nothing to be UNDONE.")
    static void promise03ANewTasterLeavesNothingToBeUndone() {
        NewsCow x = threeCows();
        x.bear(2);
        x.answer(0, 1, 0);
        x.taster(1, 9);
        due("undo()", x.undo(), NewsCow.NONE);
        Edges.counts(x, 3, 2, 1, 6, 2, 6, 5, 0);
    }

    // ---- 4 milk

    static void promise04MilkOfOneAndNineHolds() {
        NewsCow x = threeCows();
        due("milk(0, 9)", x.milk(0, 9), 1);
        due("milk(0, 9)", x.milk(0, 9), 9);
        due("milk(2, 1)", x.milk(2, 1), 3);
        due("of(0)", x.of(0), 9);
        due("of(1)", x.of(1), 2);
        due("of(2)", x.of(2), 1);
    }

    @Says("BAD.")
    static void promise04MilkBelowOneOrAboveNineIsBad() {
        for (int v : new int[] {0, -1, 10, MIN, MAX}) {
            Edges.bad("milk(1, " + v + ")", Edges::rich, x -> x.milk(1, v));
        }
    }

    @Says("BAD.")
    static void promise04NoSuchCowIsBad() {
        for (int cow : new int[] {-1, 3, MIN, MAX, NewsCow.NONE}) {
            Edges.bad("milk(" + cow + ", 5)", Edges::rich, x -> x.milk(cow, 5));
        }
        Edges.bad("milk(8, 5)", Edges::full, x -> x.milk(8, 5));
        Edges.bad("milk(0, 5), no herd", NewsCow::new, x -> x.milk(0, 5));
    }

    static void promise04WhatMayBeUndoneStays() {
        NewsCow x = threeCows();
        x.answer(0, 3, 1);
        x.milk(2, 9);
        Edges.counts(x, 3, 1, 1, 3, NewsCow.NONE, 12, 3, 1);
        due("undo()", x.undo(), 0);
        due("milk is not undone", x.of(2), 9);
        due("it may be", x.count(3), 7);
    }

    // ---- 5 at

    @Says("BAD.")
    static void promise05WhatBelowZeroOrAboveOneIsBad() {
        for (int what : new int[] {-1, 2, MIN, MAX}) {
            Edges.bad("at(0, " + what + ")", Edges::rich, x -> x.at(0, what));
        }
    }

    @Says("BAD.")
    static void promise05NoSuchTasterIsBad() {
        for (int taster : new int[] {-1, 4, MIN, MAX}) {
            Edges.bad("at(" + taster + ", 0)", Edges::full, x -> x.at(taster, 0));
        }
        Edges.bad("at(1, 0)", Edges01To10::threeCows, x -> x.at(1, 0));
        Edges.bad("at(0, 1), no herd", NewsCow::new, x -> x.at(0, 1));
    }

    static void promise05TheFirstAndTheLastTaster() {
        NewsCow x = Edges.full();
        due("at(0, 0)", x.at(0, 0), 0);
        due("at(0, 1)", x.at(0, 1), 1);
        due("at(3, 0)", x.at(3, 0), 4);
        due("at(3, 1)", x.at(3, 1), 2);
    }

    // ---- 6 of

    @Says("BAD.")
    static void promise06NoSuchCowIsBad() {
        for (int cow : new int[] {-1, 3, MIN, MAX}) {
            Edges.bad("of(" + cow + ")", Edges::rich, x -> x.of(cow));
        }
        Edges.bad("of(8)", Edges::full, x -> x.of(8));
        Edges.bad("of(0), no herd", NewsCow::new, x -> x.of(0));
    }

    static void promise06TheFirstAndTheLastCow() {
        due("of(0)", Edges.full().of(0), 1);
        due("of(7)", Edges.full().of(7), 8);
        due("of(0)", Check.of("9").of(0), 9);
    }

    // ---- 7 notices

    @Says("BAD.")
    static void promise07AMixHasOneCowAtLeast() {
        Edges.bad("notices(0, 0, 0)", Edges::rich, x -> x.notices(0, 0, 0));
        Edges.bad("notices(2, 0, 0)", Edges::full, x -> x.notices(2, 0, 0));
        due("the first", Edges.rich().notices(0, 1, 0), 1);
    }

    @Says("BAD.")
    static void promise07AMixIsOfCowsThatThereAre() {
        for (int mix : new int[] {8, 9, 15, -1, MIN, MAX}) {
            Edges.bad("notices(0, " + mix + ", 0)", Edges::rich, x -> x.notices(0, mix, 0));
        }
        Edges.bad("notices(0, 256, 0)", Edges::full, x -> x.notices(0, 256, 0));
        Edges.bad("notices(0, 257, 0)", Edges::full, x -> x.notices(0, 257, 0));
        due("the last mix of three", Edges.rich().notices(0, 7, 2), 1);
        due("the last mix of eight", Edges.full().notices(0, 255, 7), 1);
    }

    @Says("BAD.")
    static void promise07NoSuchTasterOrCowIsBad() {
        for (int number : new int[] {-1, 4, MIN, MAX}) {
            Edges.bad("notices(" + number + ", 1, 0)", Edges::rich, x -> x.notices(number, 1, 0));
            Edges.bad("notices(0, 1, " + number + ")", Edges::rich, x -> x.notices(0, 1, number));
        }
        Edges.bad("notices(0, 1, 3)", Edges::rich, x -> x.notices(0, 1, 3));
        Edges.bad("notices(0, 1, 8)", Edges::full, x -> x.notices(0, 1, 8));
        Edges.bad("notices(0, 1, 0), no herd", NewsCow::new, x -> x.notices(0, 1, 0));
    }

    static void promise07DullNoticesJustAsMuchButNotLess() {
        due("1 * 9 of 9", Check.noticing(Check.of("18;d9"), 0, 3), 3);
        due("1 * 9 of 10", Check.noticing(Check.of("19;d9"), 0, 3), 2);
        due("2 * 3 of 6", Check.noticing(Check.of("24;d3"), 0, 3), 3);
        due("2 * 3 of 7", Check.noticing(Check.of("25;d3"), 0, 3), 2);
        due("alone by 1", Check.noticing(Check.of("37;d1"), 0, 1), 1);
        due("two by 1", Check.noticing(Check.of("37;d1"), 0, 3), 0);
        due("9 * 8 of 72", Check.noticing(Check.of("99999999;d8"), 0, 255), 255);
        due("9 * 7 of 72", Check.noticing(Check.of("99999999;d7"), 0, 255), 0);
    }

    static void promise07DullNeedsHerInTheMix() {
        due("strong, but not in it", Check.noticing(Check.of("91;d9"), 0, 2), 2);
    }

    static void promise07FancifulAsFineIsPlainOneMoreIsNot() {
        due("1 of 1", Check.noticing(Check.of("111;f1"), 0, 4), 4);
        due("2 of 1", Check.noticing(Check.of("111;f1"), 0, 6), 7);
        due("2 of 2", Check.noticing(Check.of("111;f2"), 0, 6), 6);
        due("3 of 2", Check.noticing(Check.of("1111;f2"), 0, 7), 15);
        due("8 of 7, 7 of 7", Check.noticing(Check.of("11111111;f7"), 0, 127), 127);
        due("8 of 7, all", Check.noticing(Check.of("11111111;f7"), 0, 255), 255);
    }

    static void promise07SleepyNeverOnMultiplesOfThree() {
        due("day 0", Check.noticing(Check.of("11;s9,p1"), 0, 1), 0);
        due("day 3", Check.noticing(Edges.onDay(3), 1, 1), 0);
        due("day 9999", Check.noticing(Edges.onDay(9999), 1, 1), 0);
        due("day 1", Check.noticing(Edges.onDay(1), 1, 1), 1);
        due("day 2", Check.noticing(Edges.onDay(2), 1, 1), 1);
        due("day 4", Check.noticing(Edges.onDay(4), 1, 1), 1);
        due("day 9998", Check.noticing(Edges.onDay(9998), 1, 1), 1);
    }

    static void promise07PoetTheOtherWayRoundOnOddDays() {
        due("day 0, as fine", Check.noticing(Edges.onDay(0), 2, 3), 3);
        due("day 0, more", Check.noticing(Edges.onDay(0), 2, 7), 255);
        due("day 1, as fine", Check.noticing(Edges.onDay(1), 2, 3), 252);
        due("day 1, more", Check.noticing(Edges.onDay(1), 2, 7), 0);
        due("day 2, as fine", Check.noticing(Edges.onDay(2), 2, 3), 3);
        due("day 9998, more", Check.noticing(Edges.onDay(9998), 2, 7), 255);
        due("day 9999, as fine", Check.noticing(Edges.onDay(9999), 2, 3), 252);
        due("day 9999, more", Check.noticing(Edges.onDay(9999), 2, 7), 0);
    }

    static void promise07WhateverItMayBe() {
        NewsCow x = threeCows();
        x.answer(0, 1, 1);
        x.answer(0, 1, 0);
        due("it may be none", Check.noticing(x, 0, 6), 6);
        Edges.changesNothing("notices(0, 6, 1)", Edges::rich, y -> y.notices(0, 6, 1));
    }

    // ---- 8 type

    static void promise08LettersFrom32To126Hold() {
        NewsCow x = new NewsCow();
        due("type(32)", x.type(32), 1);
        due("type(126)", x.type(126), 2);
    }

    @Says("BAD: not 32 .. 126;")
    static void promise08LettersBelow32OrAbove126AreBad() {
        for (int letter : new int[] {31, 127, 0, -1, -32, 128, 256 + '1', 65536 + '1', MIN, MAX}) {
            Edges.bad("type(" + letter + ")", Edges::rich, x -> x.type(letter));
        }
    }

    private static NewsCow fortyLetters() {
        NewsCow x = threeCows();
        Check.type(x, FORTY_BLANKS.substring(1) + "7");
        return x;
    }

    @Says("FULL: 40.")
    static void promise08TheFortiethHoldsTheNextIsFull() {
        NewsCow x = new NewsCow();
        Check.type(x, FORTY_BLANKS.substring(1));
        due("the fortieth", x.type('7'), 40);
        due("one more", x.type('8'), NewsCow.FULL);
        due("herd()", x.herd(), 1);
        due("of(0)", x.of(0), 7);
        Edges.refused("type('8')", Edges01To10::fortyLetters, NewsCow.FULL, y -> y.type('8'));
        Edges.refused("type(' ')", Edges01To10::fortyLetters, NewsCow.FULL, y -> y.type(' '));
    }

    static void promise08BadAheadOfFull() {
        Edges.bad("type(31)", Edges01To10::fortyLetters, x -> x.type(31));
        Edges.bad("type(127)", Edges01To10::fortyLetters, x -> x.type(127));
    }

    static void promise08AnewBehindAFullTape() {
        NewsCow x = fortyLetters();
        x.herd();
        due("type", x.type('5'), 1);
        due("herd()", x.herd(), 1);
        due("of(0)", x.of(0), 5);
    }

    // ---- 9 herd

    /** A text with a fault: its place, all else stays, and the tape is empty then. */
    private static void fault(String text, int place) {
        due("'" + text + "'", Check.herd(threeCows(), text), -20 - place);
        NewsCow x = Edges.rich();
        x.herd();
        Check.type(x, text);
        x.herd();
        due("'" + text + "', the tape is empty then", x.type(' '), 1);
        due("'" + text + "', and stays so", x.herd(), -21);
        Edges.refused("'" + text + "'", Edges01To10::richWithoutTape, -20 - place, y -> Check.herd(y, text));
    }

    private static NewsCow richWithoutTape() {
        NewsCow x = Check.of("12!3;p1,d2");
        Edges.fillSheets(x);
        x.image();
        x.drift(3);
        x.bear(2);
        x.seed(77);
        return x;
    }

    private static void herd(String text, int cows, int tasters, int bearer) {
        NewsCow x = richWithoutTape();
        due("'" + text + "'", Check.herd(x, text), cows);
        due("'" + text + "', cows", x.count(0), cows);
        due("'" + text + "', tasters", x.count(1), tasters);
        due("'" + text + "', day", x.count(2), 0);
        due("'" + text + "', it may be all", x.count(3), (1 << cows) - 1);
        due("'" + text + "', the bearer", x.count(4), bearer);
        due("'" + text + "', nothing to be undone", x.count(7), 0);
        due("'" + text + "', the draw stays", x.seed(1), 77);
        due("'" + text + "', the tape is empty then", x.type('1'), 1);
    }

    static void promise09OneDigitAndEightHold() {
        herd("1", 1, 0, NewsCow.NONE);
        herd("9", 1, 0, NewsCow.NONE);
        herd("19191919", 8, 0, NewsCow.NONE);
    }

    static void promise09NoneAndANinthAreFaults() {
        fault("", 0);
        fault(";p1", 0);
        fault("123456789", 8);
        fault("1!23456789", 9);
        fault("12345678!9", 9);
    }

    static void promise09DigitsBelowOneAreFaults() {
        fault("0", 0);
        fault("10", 1);
        fault("1;p0", 3);
        fault("/", 0);
        fault(":", 0);
    }

    static void promise09TheBearerBehindTheFirstAndTheLast() {
        herd("1!", 1, 0, 0);
        herd("1!2345678", 8, 0, 0);
        herd("12345678!", 8, 0, 7);
        herd("12345678!;p1", 8, 1, 7);
    }

    static void promise09ASecondBearerIsAFault() {
        fault("1!!", 2);
        fault("1!2!", 3);
        fault("1!2345678!", 9);
        fault("1!2!;p1", 3);
    }

    static void promise09TheBearerAheadOfDigitsIsAFault() {
        fault("!", 0);
        fault("!1", 0);
        fault("1;!", 2);
        fault("1;p!", 3);
        fault("1;p1!", 4);
    }

    static void promise09OneTasterAndFourHold() {
        herd("1;p1", 1, 1, NewsCow.NONE);
        herd("1;s9,o9,f9,d9", 1, 4, NewsCow.NONE);
        herd("12345678!;p1,d2,f3,s4", 8, 4, 7);
    }

    static void promise09NoTasterAndAFifthAreFaults() {
        fault("1;", 2);
        fault("1;,", 2);
        fault("1;p1,", 5);
        fault("1;p1,d2,f3,s4,", 13);
        fault("1;p1,d2,f3,s4,o5", 13);
    }

    static void promise09ATasterWithoutKindOrFineIsAFault() {
        fault("1;1", 2);
        fault("1;p", 3);
        fault("1;p,", 3);
        fault("1;P1", 2);
        fault("1;q1", 2);
        fault("1;pd", 3);
        fault("1;p1,2", 5);
        fault("1;p1,d2,f3,s", 12);
    }

    static void promise09MoreBehindTheEndIsAFault() {
        fault("1;p1;", 4);
        fault("1;p12", 4);
        fault("1;p1d2", 4);
        fault("1;;", 2);
        fault("1;p1,d2,f3,s4;", 13);
        fault("1p1", 1);
        fault("1,2", 1);
        fault("1~", 1);
    }

    @Says(terms = "blanks count for nothing.")
    static void promise09BlanksCountForNothing() {
        herd(" 1 ", 1, 0, NewsCow.NONE);
        herd("1 !", 1, 0, 0);
        herd("1 2 3 4 5 6 7 8", 8, 0, NewsCow.NONE);
        herd("  1  2 !  ;  p  3  ,  o  4  ", 2, 2, 1);
        herd(FORTY_BLANKS.substring(1) + "5", 1, 0, NewsCow.NONE);
        herd("5" + FORTY_BLANKS.substring(1), 1, 0, NewsCow.NONE);
    }

    @Says(terms = "FAULTS: -20 less the place of the first letter (behind blanks) that can't stand there")
    static void promise09ThePlaceOfAFaultIsBehindBlanks() {
        fault("  0", 2);
        fault("1  0", 3);
        fault("1 ;  x", 5);
        fault("1;p  0", 5);
        fault("1;p1  d", 6);
        fault(FORTY_BLANKS.substring(1) + "x", 39);
    }

    @Says(terms = "(the end: how many there are);")
    static void promise09AtTheEndThePlaceIsHowManyThereAre() {
        fault(" ", 1);
        fault("1; ", 3);
        fault("1;p  ", 5);
        fault("1;p1, ", 6);
        fault(FORTY_BLANKS, 40);
    }

    static void promise09AHerdOfFortyLetters() {
        herd("1 2 3 4 5 6 7 8 ! ;  p 1 , d 2 , f 3 , s", 8, 4, 7, "4");
        herd(" 1 2 3 4 5 6 7 8 ! ; p1 , d2 , f3 , s4  ", 8, 4, 7);
    }

    /** The last letter of such a text would be the forty-first: the tape has its end ahead of it. */
    private static void herd(String text, int cows, int tasters, int bearer, String lost) {
        NewsCow x = new NewsCow();
        Check.type(x, text);
        due("the tape is full", x.type(lost.charAt(0)), NewsCow.FULL);
        due("'" + text + "'", x.herd(), -20 - 40);
        herd(text.replace(" ", "") + lost, cows, tasters, bearer);
    }

    static void promise09AHerdIsInPlaceOfAll() {
        NewsCow x = Edges.full();
        x.herd();
        Edges.counts(x, 1, 0, 0, 1, NewsCow.NONE, 9, 9, 0);
        due("of(0)", x.of(0), 9);
        due("no second cow", x.of(1), NewsCow.BAD);
        due("no taster", x.at(0, 0), NewsCow.BAD);
        due("sheets stay", x.drop(1), 12);
        due("the image stays", x.restore(), 1);
        due("the image stays", x.count(0), 8);
    }

    static void promise09AfterAFaultNothingOfItIsLeft() {
        NewsCow x = new NewsCow();
        due("a fault", Check.herd(x, "12345678!;p1,d2,f3,x"), -20 - 19);
        due("a herd", Check.herd(x, "5"), 1);
        Edges.counts(x, 1, 0, 0, 1, NewsCow.NONE, 5, 5, 0);
    }

    // ---- 10 count

    @Says("BAD.")
    static void promise10WhatBelowZeroOrAboveSevenIsBad() {
        for (int what : new int[] {-1, 8, MIN, MAX, NewsCow.NONE}) {
            Edges.bad("count(" + what + ")", Edges::rich, x -> x.count(what));
        }
    }

    static void promise10OfTheGreatestHerd() {
        Edges.counts(Check.of("99999999!;p1,p1,p1,p1"), 8, 4, 0, 255, 7, 72, 72, 0);
    }

    static void promise10OfTheLastDay() {
        due("count(2)", Edges.onDay(9999).count(2), 9999);
        due("count(7)", Edges.onDay(9999).count(7), 8);
    }

    static void promise10ItMayBeNone() {
        NewsCow x = threeCows();
        x.answer(0, 7, 0);
        Edges.counts(x, 3, 1, 1, 0, NewsCow.NONE, 6, 0, 1);
    }

    static void promise10ChangesNothing() {
        for (int k = 0; k < 8; k++) {
            int what = k;
            Edges.changesNothing("count(" + what + ")", Edges::rich, x -> x.count(what));
        }
    }
}
