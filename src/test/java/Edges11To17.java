import java.util.function.Supplier;

/** Boundary cases of promises 11 to 17: what is done, by draws, and undone. */
final class Edges11To17 {
    private static final int MAX = Edges.MAX;
    private static final int MIN = Edges.MIN;
    private static final int NONE = NewsCow.NONE;
    private static final Supplier<NewsCow> LAST_DAY = () -> Edges.onDay(9999);
    private static final Supplier<NewsCow> LAST_DAY_WITHOUT_BEARER = () -> {
        NewsCow x = Edges.onDay(9999);
        x.bear(NONE);
        return x;
    };

    private Edges11To17() {
    }

    private static void due(String call, long got, long want) {
        Edges.due(call, got, want);
    }

    private static NewsCow threeCows() {
        return Check.of("123;p1,s9,o1");
    }

    private static NewsCow withoutBearer() {
        NewsCow x = Edges.rich();
        x.bear(NONE);
        return x;
    }

    // ---- 11 answer

    @Says("BAD;")
    static void promise11AnAnswerIsOneOrZero() {
        due("answer(0, 1, 1)", threeCows().answer(0, 1, 1), 1);
        due("answer(0, 1, 0)", threeCows().answer(0, 1, 0), 6);
        for (int is : new int[] {-1, 2, MIN, MAX}) {
            Edges.bad("answer(0, 1, " + is + ")", Edges::rich, x -> x.answer(0, 1, is));
        }
    }

    @Says("BAD;")
    static void promise11AMixOfCowsThatThereAreOneAtLeast() {
        due("the first", threeCows().answer(0, 1, 1), 1);
        due("the last", threeCows().answer(0, 7, 1), 7);
        for (int mix : new int[] {0, 8, -1, MIN, MAX}) {
            Edges.bad("answer(0, " + mix + ", 1)", Edges::rich, x -> x.answer(0, mix, 1));
        }
        Edges.bad("answer(0, 256, 1)", Edges::full, x -> x.answer(0, 256, 1));
    }

    @Says("BAD;")
    static void promise11NoSuchTasterIsBad() {
        for (int taster : new int[] {-1, 4, MIN, MAX}) {
            Edges.bad("answer(" + taster + ", 1, 1)", Edges::rich, x -> x.answer(taster, 1, 1));
        }
        Edges.bad("answer(3, 1, 1)", Edges11To17::threeCows, x -> x.answer(3, 1, 1));
        Edges.bad("answer(0, 1, 1), no herd", NewsCow::new, x -> x.answer(0, 1, 1));
    }

    static void promise11ItMayBeNoneThen() {
        NewsCow x = threeCows();
        due("none", x.answer(0, 7, 0), 0);
        due("none stays", x.answer(0, 7, 1), 0);
        due("day 2", x.count(2), 2);
        due("two may be undone", x.count(7), 2);
    }

    static void promise11AnAnswerThatTellsNothingIsDone() {
        NewsCow x = threeCows();
        due("all", x.answer(0, 7, 1), 7);
        due("the next day", x.count(2), 1);
        due("it may be undone", x.count(7), 1);
    }

    static void promise11TheBearerNeedNotAgree() {
        NewsCow x = Check.of("12!3;p1");
        due("as it is told", x.answer(0, 2, 0), 5);
        due("the bearer stays", x.count(4), 1);
    }

    static void promise11ByTheDayAheadOfIt() {
        NewsCow x = threeCows();
        due("sleepy on day 0", x.answer(1, 1, 0), 7);
        due("poet on day 1", x.answer(2, 1, 1), 6);
        due("sleepy on day 2", x.answer(1, 2, 1), 2);
    }

    @Says("FULL: the DAY would be above 9999.")
    static void promise11Day9999HoldsTheNextIsFull() {
        NewsCow x = Edges.onDay(9998);
        due("to day 9999", x.answer(0, 255, 1), 128);
        due("the day", x.count(2), 9999);
        due("one more", x.answer(0, 255, 1), NewsCow.FULL);
        Edges.refused("answer(0, 255, 1)", LAST_DAY, NewsCow.FULL, y -> y.answer(0, 255, 1));
        Edges.refused("answer(1, 1, 0)", LAST_DAY, NewsCow.FULL, y -> y.answer(1, 1, 0));
    }

    static void promise11BadAheadOfFull() {
        Edges.bad("answer(4, 1, 1)", LAST_DAY, x -> x.answer(4, 1, 1));
        Edges.bad("answer(-1, 1, 1)", LAST_DAY, x -> x.answer(-1, 1, 1));
        Edges.bad("answer(0, 0, 1)", LAST_DAY, x -> x.answer(0, 0, 1));
        Edges.bad("answer(0, 256, 1)", LAST_DAY, x -> x.answer(0, 256, 1));
        Edges.bad("answer(0, 1, 2)", LAST_DAY, x -> x.answer(0, 1, 2));
    }

    static void promise11HoldsAgainBehindUndo() {
        NewsCow x = Edges.onDay(9999);
        due("undo()", x.undo(), 7);
        due("day 9998", x.count(2), 9998);
        due("answer", x.answer(0, 255, 1), 128);
        due("day 9999", x.count(2), 9999);
    }

    // ---- 12 drink

    @Says("BAD;")
    static void promise12AMixOfCowsThatThereAreOneAtLeast() {
        due("the first", Edges.rich().drink(0, 1), 1);
        due("the last", Edges.rich().drink(0, 7), 1);
        for (int mix : new int[] {0, 8, -1, MIN, MAX}) {
            Edges.bad("drink(0, " + mix + ")", Edges::rich, x -> x.drink(0, mix));
        }
        Edges.bad("drink(0, 256)", Edges::full, x -> x.drink(0, 256));
    }

    @Says("BAD;")
    static void promise12NoSuchTasterIsBad() {
        for (int taster : new int[] {-1, 4, MIN, MAX}) {
            Edges.bad("drink(" + taster + ", 1)", Edges::rich, x -> x.drink(taster, 1));
        }
        Edges.bad("drink(0, 1), no herd", NewsCow::new, x -> x.drink(0, 1));
    }

    @Says("NOT: THE BEARER is not told;")
    static void promise12NotIfTheBearerIsNotTold() {
        Edges.refused("drink(0, 1)", Edges11To17::withoutBearer, NewsCow.NOT, x -> x.drink(0, 1));
        Edges.refused("drink(0, 1)", Edges11To17::threeCows, NewsCow.NOT, x -> x.drink(0, 1));
    }

    static void promise12BadAheadOfNot() {
        Edges.bad("drink(0, 0)", Edges11To17::withoutBearer, x -> x.drink(0, 0));
        Edges.bad("drink(0, 8)", Edges11To17::withoutBearer, x -> x.drink(0, 8));
        Edges.bad("drink(4, 1)", Edges11To17::withoutBearer, x -> x.drink(4, 1));
        Edges.bad("drink(-1, 1)", Edges11To17::withoutBearer, x -> x.drink(-1, 1));
    }

    @Says("FULL (ahead of NOT): likewise.")
    static void promise12Day9999HoldsTheNextIsFull() {
        NewsCow x = Edges.onDay(9998);
        due("to day 9999", x.drink(0, 128), 1);
        due("the day", x.count(2), 9999);
        due("one more", x.drink(0, 128), NewsCow.FULL);
        Edges.refused("drink(0, 128)", LAST_DAY, NewsCow.FULL, y -> y.drink(0, 128));
        Edges.refused("drink(0, 1)", LAST_DAY, NewsCow.FULL, y -> y.drink(0, 1));
    }

    @Says("FULL (ahead of NOT): likewise.")
    static void promise12FullAheadOfNot() {
        Edges.refused("drink(0, 1)", LAST_DAY_WITHOUT_BEARER, NewsCow.FULL, x -> x.drink(0, 1));
    }

    static void promise12BadAheadOfFull() {
        Edges.bad("drink(0, 0)", LAST_DAY, x -> x.drink(0, 0));
        Edges.bad("drink(0, 256)", LAST_DAY_WITHOUT_BEARER, x -> x.drink(0, 256));
        Edges.bad("drink(4, 1)", LAST_DAY_WITHOUT_BEARER, x -> x.drink(4, 1));
    }

    static void promise12TheBearerMayBeOneThatItMayNotBe() {
        NewsCow x = Check.of("12!3;p1");
        x.answer(0, 2, 0);
        due("drink(0, 2)", x.drink(0, 2), 1);
        due("it may be none", x.count(3), 0);
        due("none stays none", x.drink(0, 1), 0);
        due("it may be none", x.count(3), 0);
    }

    static void promise12TheFirstAndTheLastCow() {
        NewsCow x = Check.of("1!2345678;p1");
        due("the first", x.drink(0, 1), 1);
        due("it may be", x.count(3), 1);
        x.bear(7);
        x.forget();
        due("the last", x.drink(0, 128), 1);
        due("it may be", x.count(3), 128);
        due("not the last", x.drink(0, 127), 0);
        due("it may be", x.count(3), 128);
    }

    static void promise12MayBeUndoneThoughItTellsNothing() {
        NewsCow x = Check.of("12!3;p1");
        due("drink(0, 7)", x.drink(0, 7), 1);
        due("it may be all still", x.count(3), 7);
        due("the next day", x.count(2), 1);
        due("undo()", x.undo(), 0);
        due("day 0", x.count(2), 0);
    }

    // ---- 13 forget

    @Says("NOT: it MAY BE all.")
    static void promise13NotIfItMayBeAll() {
        Edges.refused("forget()", Edges11To17::threeCows, NewsCow.NOT, x -> x.forget());
        Edges.refused("forget(), no herd", NewsCow::new, NewsCow.NOT, x -> x.forget());
        Edges.refused("forget(), behind an answer that tells nothing", () -> {
            NewsCow x = Edges.rich();
            x.forget();
            x.answer(0, 7, 1);
            return x;
        }, NewsCow.NOT, x -> x.forget());
    }

    static void promise13AllButOneAndNoneHold() {
        NewsCow x = threeCows();
        x.answer(0, 4, 0);
        due("two", x.forget(), 3);
        x.answer(0, 7, 0);
        due("none", x.forget(), 3);
        due("all", x.count(3), 7);
        due("the day stays", x.count(2), 2);
        due("four may be undone", x.count(7), 4);
        due("again", x.forget(), NewsCow.NOT);
    }

    static void promise13HoldsOnTheLastDay() {
        NewsCow x = Edges.onDay(9999);
        due("forget()", x.forget(), 8);
        due("all", x.count(3), 255);
        due("the day stays", x.count(2), 9999);
    }

    // ---- 14 bear

    static void promise14TheFirstTheLastAndNoneHold() {
        NewsCow x = Check.of("12345678");
        due("bear(0)", x.bear(0), NONE);
        due("bear(7)", x.bear(7), 0);
        due("bear(NONE)", x.bear(NONE), 7);
        due("count(4)", x.count(4), NONE);
        due("three may be undone", x.count(7), 3);
    }

    @Says("BAD;")
    static void promise14NoSuchCowIsBad() {
        for (int cow : new int[] {-1, -2, -3, -5, 3, MIN, MAX}) {
            Edges.bad("bear(" + cow + ")", Edges::rich, x -> x.bear(cow));
        }
        Edges.bad("bear(8)", Edges::full, x -> x.bear(8));
        Edges.bad("bear(0), no herd", NewsCow::new, x -> x.bear(0));
    }

    @Says("NOT: it is so.")
    static void promise14NotIfItIsSo() {
        Edges.refused("bear(0)", Edges::rich, NewsCow.NOT, x -> x.bear(0));
        Edges.refused("bear(NONE)", Edges11To17::withoutBearer, NewsCow.NOT, x -> x.bear(NONE));
        Edges.refused("bear(NONE), no herd", NewsCow::new, NewsCow.NOT, x -> x.bear(NONE));
    }

    static void promise14OneThatItMayNotBeHolds() {
        NewsCow x = threeCows();
        x.answer(0, 1, 1);
        due("bear(2)", x.bear(2), NONE);
        due("it may be", x.count(3), 1);
    }

    static void promise14HoldsOnTheLastDay() {
        NewsCow x = Edges.onDay(9999);
        due("bear(0)", x.bear(0), 7);
        due("the day stays", x.count(2), 9999);
    }

    // ---- 15 drift

    static void promise15OneAndFortyHold() {
        NewsCow x = new NewsCow();
        due("drift(1)", x.drift(1), 0);
        due("one may be undone", x.count(7), 1);
        due("drift(40)", x.drift(40), 0);
    }

    @Says("BAD;")
    static void promise15BelowOneOrAboveFortyIsBad() {
        for (int n : new int[] {0, -1, 41, MIN, MAX}) {
            Edges.bad("drift(" + n + ")", Edges::rich, x -> x.drift(n));
            Edges.bad("drift(" + n + "), no herd", NewsCow::new, x -> x.drift(n));
        }
    }

    @Says("FULL: the DAY might be above 9999 (if all are drunk).")
    static void promise15Day9999MayComeOneMoreMayNot() {
        due("40 from day 9959", Edges.onDay(9959).drift(40), 128);
        Edges.refused("40 from day 9960", () -> Edges.onDay(9960), NewsCow.FULL, x -> x.drift(40));
        due("39 from day 9960", Edges.onDay(9960).drift(39), 128);
        due("1 from day 9998", Edges.onDay(9998).drift(1), 128);
        Edges.refused("2 from day 9998", () -> Edges.onDay(9998), NewsCow.FULL, x -> x.drift(2));
        Edges.refused("1 from day 9999", LAST_DAY, NewsCow.FULL, x -> x.drift(1));
    }

    @Says("FULL: the DAY might be above 9999 (if all are drunk).")
    static void promise15FullThoughNothingWouldBeDrunk() {
        Edges.refused("drift(1)", LAST_DAY_WITHOUT_BEARER, NewsCow.FULL, x -> x.drift(1));
        // seed 9859 becomes 404652032, by 128 is 3161344, left over by 256 is 0: no mix
        Edges.refused("drift(1)", () -> {
            NewsCow x = Edges.onDay(9999);
            x.seed(9859);
            return x;
        }, NewsCow.FULL, x -> x.drift(1));
    }

    static void promise15BadAheadOfFull() {
        Edges.bad("drift(0)", LAST_DAY, x -> x.drift(0));
        Edges.bad("drift(41)", LAST_DAY, x -> x.drift(41));
        Edges.bad("drift(MAX)", LAST_DAY, x -> x.drift(MAX));
    }

    /** The draw behind one drift from a seed. */
    private static int drawBehind(int seed) {
        NewsCow x = new NewsCow();
        x.seed(seed);
        x.drift(1);
        return x.seed(0);
    }

    static void promise15TheDrawWrapsAtThirtyOneBits() {
        due("of 0", drawBehind(0), 12345);
        due("of 1", drawBehind(1), 1103527590);
        // 2207042835 less 2147483648
        due("of 2", drawBehind(2), 59559187);
        // -1103515245 and 12345 more, 2147483648 more
        due("of MAX", drawBehind(MAX), 1043980748);
        // half of 31 bits, times an odd number, is itself
        due("of 1073741824", drawBehind(1 << 30), (1 << 30) + 12345);
    }

    static void promise15AMixOfNoneIsNotDrunk() {
        // 12345 by 128 is 96: of five cows 0 is left, of six cows 32, of seven and eight 96
        String[] texts = {"1!;p1", "1!1111;p1", "1!11111;p1", "1!111111;p1", "1!1111111;p1"};
        int[] days = {0, 0, 1, 1, 1};
        int[] mayBe = {1, 31, 31, 31, 159};
        for (int k = 0; k < texts.length; k++) {
            NewsCow x = Check.of(texts[k]);
            x.seed(0);
            due(texts[k], x.drift(1), mayBe[k]);
            due(texts[k] + ", the day", x.count(2), days[k]);
            due(texts[k] + ", it may be undone", x.count(7), 1);
            due(texts[k] + ", the draw goes on", x.seed(0), 12345);
        }
    }

    static void promise15TheTasterIsWhatIsLeftOver() {
        // 1103527590 by 65536 is 16838: of 1, 2 none is left, of 3 tasters 2, of 4 tasters 2; the mix of two cows is 1
        String[] texts = {"1!1;p1", "1!1;p1,s1", "1!1;s1,s1,p1", "1!1;s1,s1,p1,s1"};
        for (String text : texts) {
            due(text, Check.of(text).drift(1), 1);
        }
        due("by a sleepy one", Check.of("1!1;p1,p1,s1").drift(1), 3);
    }

    static void promise15NothingWithoutTastersOrBearer() {
        NewsCow x = Check.of("12!");
        due("no tasters", x.drift(1), 3);
        due("no tasters, the day", x.count(2), 0);
        due("no tasters, the draw goes on", x.seed(1), 1103527590);
        x = Check.of("12;p1");
        due("no bearer", x.drift(1), 3);
        due("no bearer, the day", x.count(2), 0);
        due("no bearer, the draw goes on", x.seed(1), 1103527590);
        x = new NewsCow();
        x.taster(0, 1);
        due("no cows", x.drift(1), 0);
        due("no cows, the draw goes on", x.seed(1), 1103527590);
    }

    static void promise15EachByItselfMayBeUndoneThoughNothingIsDrunk() {
        NewsCow x = new NewsCow();
        x.drift(3);
        due("undo()", x.undo(), 2);
        due("the draw", x.seed(0), 377401575);
        due("undo()", x.undo(), 1);
        due("the draw", x.seed(0), 1103527590);
        due("undo()", x.undo(), 0);
        due("the draw", x.seed(0), 1);
        due("undo()", x.undo(), NONE);
    }

    static void promise15OfFortyEightAreKnown() {
        NewsCow x = Check.of("1!2;p1");
        for (int k = 0; k < 32; k++) {
            x.drift(1);
        }
        int draw = x.seed(5);
        int day = x.count(2);
        x = Check.of("1!2;p1");
        x.drift(40);
        for (int left = 7; left >= 0; left--) {
            due("undo()", x.undo(), left);
        }
        due("undo()", x.undo(), NONE);
        due("the day behind 32", x.count(2), day);
        due("the draw behind 32", x.seed(5), draw);
    }

    // ---- 16 undo

    @Says("NONE: none is known.")
    static void promise16NoneIfNoneIsKnown() {
        Edges.refused("no herd", NewsCow::new, NONE, x -> x.undo());
        Edges.refused("a herd", () -> {
            NewsCow x = Edges.rich();
            x.herd();
            return x;
        }, NONE, x -> x.undo());
        Edges.refused("a new cow", () -> {
            NewsCow x = Edges.rich();
            x.cow(1);
            return x;
        }, NONE, x -> x.undo());
    }

    @Says(terms = "(8 are known, older ones lost):")
    static void promise16EightAreKnownTheNinthIsLost() {
        NewsCow x = Check.of("12345678");
        for (int c = 0; c < 7; c++) {
            x.bear(c);
        }
        due("seven", x.count(7), 7);
        x.bear(7);
        due("eight", x.count(7), 8);
        x.bear(NONE);
        due("nine", x.count(7), 8);
        for (int left = 7; left >= 0; left--) {
            due("undo()", x.undo(), left);
            due("the bearer", x.count(4), left);
        }
        due("undo()", x.undo(), NONE);
        due("the first is not undone", x.count(4), 0);
    }

    @Says(terms = "(8 are known, older ones lost):")
    static void promise16TheOldestIsLostTimeAndAgain() {
        NewsCow x = Check.of("12345678");
        for (int k = 0; k < 29; k++) {
            x.bear(k % 8);
        }
        for (int left = 7; left >= 0; left--) {
            due("undo()", x.undo(), left);
            due("the bearer", x.count(4), (20 + left) % 8);
        }
        due("undo()", x.undo(), NONE);
        x.bear(NONE);
        due("anew", x.undo(), 0);
        due("the bearer", x.count(4), 20 % 8);
    }

    static void promise16RefusedCallsAreNotKnown() {
        NewsCow x = threeCows();
        x.bear(1);
        x.bear(1);
        x.forget();
        x.bear(9);
        x.answer(0, 8, 1);
        x.drink(9, 1);
        x.drift(41);
        due("one", x.count(7), 1);
        due("undo()", x.undo(), 0);
        due("the bearer", x.count(4), NONE);
    }

    static void promise16WhateverWasToldSince() {
        NewsCow x = threeCows();
        x.seed(50);
        x.answer(0, 3, 1);
        x.seed(60);
        x.milk(0, 9);
        x.sheet(0, 0, 3);
        x.type('1');
        due("undo()", x.undo(), 0);
        due("the draw is as ahead of it", x.seed(1), 50);
        due("milk is not", x.of(0), 9);
        due("sheets are not", x.drop(0), 3);
        due("the tape is not", x.type('2'), 2);
    }

    static void promise16WhatIsUndoneIsGone() {
        NewsCow x = threeCows();
        x.bear(0);
        x.bear(1);
        x.undo();
        x.bear(2);
        due("undo()", x.undo(), 1);
        due("the bearer", x.count(4), 0);
        due("undo()", x.undo(), 0);
        due("the bearer", x.count(4), NONE);
        due("undo()", x.undo(), NONE);
    }

    static void promise16SeedAndMilkAreNothingToBeUndone() {
        NewsCow x = threeCows();
        x.seed(5);
        x.milk(0, 7);
        due("undo()", x.undo(), NONE);
        due("the draw stays", x.seed(1), 5);
    }

    // ---- 17 seed

    static void promise17ZeroAndTheGreatestHold() {
        NewsCow x = new NewsCow();
        due("seed(0)", x.seed(0), 1);
        due("seed(MAX)", x.seed(MAX), 0);
        due("seed(1)", x.seed(1), MAX);
    }

    @Says("BAD: below 0.")
    static void promise17BelowZeroIsBad() {
        Edges.bad("seed(-1)", Edges::rich, x -> x.seed(-1));
        Edges.bad("seed(MIN)", Edges::rich, x -> x.seed(MIN));
        Edges.bad("seed(-1), no herd", NewsCow::new, x -> x.seed(-1));
    }
}
