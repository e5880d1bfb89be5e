import java.util.function.Supplier;

/** Boundary cases of promises 18 to 28: what is foretold, images. */
final class Edges18To28 {
    private static final int MAX = Edges.MAX;
    private static final int MIN = Edges.MIN;
    private static final int NONE = NewsCow.NONE;
    private static final int[] NO_TASTERS = {-1, 4, MIN, MAX};
    private static final int[] NO_MIXES = {0, 8, -1, MIN, MAX};
    private static final int[] NO_PARTS = {-1, 2, MIN, MAX};

    private Edges18To28() {
    }

    private static void due(String call, long got, long want) {
        Edges.due(call, got, want);
    }

    private static NewsCow oneCow() {
        return Check.of("5;p1");
    }

    /** A taster, but no cow. */
    private static NewsCow noCows() {
        NewsCow x = new NewsCow();
        x.taster(0, 1);
        return x;
    }

    /** Three cows of whom it may be some. */
    private static NewsCow mayBe(int set) {
        NewsCow x = Check.of("123;p1,s9");
        if (set == 0) {
            x.answer(0, 7, 0);
        } else {
            x.answer(0, set, 1);
        }
        return x;
    }

    private static NewsCow mayBeNone() {
        return mayBe(0);
    }

    // ---- 18 tells

    static void promise18TheFirstAndTheLastMix() {
        due("tells(0, 1)", Check.of("12345678;p1").tells(0, 1), 1);
        due("tells(0, 255)", Check.of("12345678;p1").tells(0, 255), 255);
        due("one cow", oneCow().tells(0, 1), 1);
    }

    @Says("BAD.")
    static void promise18NoSuchMixOrTasterIsBad() {
        for (int mix : NO_MIXES) {
            Edges.bad("tells(0, " + mix + ")", Edges::rich, x -> x.tells(0, mix));
        }
        for (int taster : NO_TASTERS) {
            Edges.bad("tells(" + taster + ", 1)", Edges::rich, x -> x.tells(taster, 1));
        }
        Edges.bad("tells(0, 256)", Edges::full, x -> x.tells(0, 256));
        Edges.bad("tells(0, 1), no cows", Edges18To28::noCows, x -> x.tells(0, 1));
        Edges.bad("tells(0, 1), no herd", NewsCow::new, x -> x.tells(0, 1));
    }

    static void promise18OfThoseThatItMayBe() {
        due("of two", mayBe(3).tells(0, 6), 2);
        due("of others", mayBe(3).tells(0, 4), 0);
        due("of none", mayBeNone().tells(0, 7), 0);
    }

    static void promise18ChangesNothing() {
        Edges.changesNothing("tells(3, 5)", Edges::rich, x -> x.tells(3, 5));
    }

    // ---- 19 fewest

    static void promise19ZeroIfOneAtMostMayBe() {
        due("one cow", oneCow().fewest(0), 0);
        due("one of three", mayBe(4).fewest(0), 0);
        due("none of three", mayBeNone().fewest(0), 0);
        due("no cows", noCows().fewest(0), 0);
        due("one, though he never notices it", Check.of("1;s9").fewest(0), 0);
    }

    static void promise19TheLeastAndTheMostOfEight() {
        due("by halves", Check.of("11111111;p1").fewest(0), 3);
        due("one by one", Check.of("11111111;d1").fewest(0), 7);
    }

    static void promise19NoneIfSomeCanNotBeToldApart() {
        due("asleep", Check.of("11;s9").fewest(0), NONE);
        due("asleep, eight", Check.of("11111111;s9").fewest(0), NONE);
        // the day stays as it is, whatever is drunk: he does not wake by day 1
        NewsCow x = Edges.onDay(3);
        x.forget();
        due("asleep on day 3", x.fewest(1), NONE);
        x.answer(0, 255, 1);
        due("awake on day 4", x.fewest(1), 3);
    }

    static void promise19TwoToTheMixesIsJustEnough() {
        due("two", Check.of("11;p1").fewest(0), 1);
        due("three", Check.of("111;p1").fewest(0), 2);
        due("four", Check.of("1111;p1").fewest(0), 2);
        due("five", Check.of("11111;p1").fewest(0), 3);
    }

    static void promise19TimeAndAgainAsTheHerdGrowsAndShrinks() {
        NewsCow x = Check.of("11;p1,d1");
        due("two", x.fewest(0), 1);
        x.cow(1);
        due("three", x.fewest(0), 2);
        due("three, one by one", x.fewest(1), 2);
        Check.herd(x, "11111111;p1,d1,s9");
        due("eight", x.fewest(0), 3);
        due("eight, one by one", x.fewest(1), 7);
        due("eight, asleep", x.fewest(2), NONE);
        due("eight", x.fewest(0), 3);
        x.answer(0, 3, 1);
        due("two of eight", x.fewest(1), 1);
        x.answer(0, 2, 1);
        due("one of eight", x.fewest(2), 0);
    }

    /** What the mixes of another taster told of another herd tells nothing of this one. */
    private static NewsCow asleepBehindOneAwake() {
        NewsCow x = Check.of("111;p1");
        x.answer(0, 5, 1);
        due("awake, fewest", x.fewest(0), 1);
        due("awake, next", x.next(0), 1);
        due("awake, at once", x.once(0, 0), 1);
        due("awake, halves", x.halves(0, 1), 1);
        Check.herd(x, "11;s9");
        return x;
    }

    static void promise19ByNothingThatOthersTold() {
        due("fewest", asleepBehindOneAwake().fewest(0), NONE);
    }

    static void promise20ByNothingThatOthersTold() {
        due("next", asleepBehindOneAwake().next(0), NONE);
    }

    static void promise21ByNothingThatOthersTold() {
        due("how many", asleepBehindOneAwake().once(0, -1), NONE);
        due("the first", asleepBehindOneAwake().once(0, 0), NONE);
    }

    static void promise22ByNothingThatOthersTold() {
        due("the mix", asleepBehindOneAwake().halves(0, 0), 1);
        due("how many", asleepBehindOneAwake().halves(0, 1), 2);
    }

    @Says("BAD.")
    static void promise19NoSuchTasterIsBad() {
        for (int taster : NO_TASTERS) {
            Edges.bad("fewest(" + taster + ")", Edges::rich, x -> x.fewest(taster));
        }
        Edges.bad("fewest(1)", Edges18To28::oneCow, x -> x.fewest(1));
        Edges.bad("fewest(0), no herd", NewsCow::new, x -> x.fewest(0));
    }

    static void promise19ChangesNothing() {
        Edges.changesNothing("fewest(0)", Edges::rich, x -> x.fewest(0));
        Edges.changesNothing("fewest(0)", Edges::full, x -> x.fewest(0));
    }

    // ---- 20 next

    static void promise20NoneIfZeroAreNeeded() {
        due("one cow", oneCow().next(0), NONE);
        due("one of three", mayBe(4).next(0), NONE);
        due("none of three", mayBeNone().next(0), NONE);
        due("no cows", noCows().next(0), NONE);
    }

    static void promise20NoneIfSomeCanNotBeToldApart() {
        due("asleep", Check.of("11;s9").next(0), NONE);
        due("asleep, eight", Check.of("11111111;s9").next(0), NONE);
    }

    static void promise20TheLeastSetOfLikeOnes() {
        due("two", Check.of("11;p1").next(0), 1);
        due("four", Check.of("1111;p1").next(0), 3);
        due("eight", Check.of("11111111;p1").next(0), 15);
        due("two of three", mayBe(6).next(0), 2);
        // 1 tells nothing of the last two of eight, nor any set without one of them
        NewsCow x = Check.of("11111111;p1");
        x.answer(0, 192, 1);
        due("the last two", x.next(0), 64);
    }

    @Says("BAD.")
    static void promise20NoSuchTasterIsBad() {
        for (int taster : NO_TASTERS) {
            Edges.bad("next(" + taster + ")", Edges::rich, x -> x.next(taster));
        }
        Edges.bad("next(1)", Edges18To28::oneCow, x -> x.next(1));
        Edges.bad("next(0), no herd", NewsCow::new, x -> x.next(0));
    }

    static void promise20ChangesNothing() {
        Edges.changesNothing("next(0)", Edges::rich, x -> x.next(0));
        Edges.changesNothing("next(0)", Edges::full, x -> x.next(0));
    }

    // ---- 21 once

    private static void atOnce(String name, Supplier<NewsCow> made, int... mixes) {
        due(name + ", how many", made.get().once(0, -1), mixes.length);
        for (int k = 0; k < mixes.length; k++) {
            due(name + ", mix " + k, made.get().once(0, k), mixes[k]);
        }
        due(name + ", not so many", made.get().once(0, mixes.length), NONE);
        due(name + ", MAX", made.get().once(0, MAX), NONE);
    }

    static void promise21NoneNeededOneAndTwo() {
        atOnce("one cow", Edges18To28::oneCow);
        atOnce("none of three", Edges18To28::mayBeNone);
        atOnce("no cows", Edges18To28::noCows);
        atOnce("two cows", () -> Check.of("11;p1"), 1);
        atOnce("three cows", () -> Check.of("111;p1"), 1, 2);
        atOnce("four cows", () -> Check.of("1111;p1"), 3, 5);
    }

    static void promise21NoneIfTwoAreNotEnough() {
        for (int k : new int[] {-1, 0, 1, 2, MAX}) {
            due("five cows, " + k, Check.of("11111;p1").once(0, k), NONE);
            due("eight cows, " + k, Check.of("11111111;p1").once(0, k), NONE);
            due("asleep, " + k, Check.of("11;s9").once(0, k), NONE);
            due("four, one by one, " + k, Check.of("1111;d1").once(0, k), NONE);
        }
    }

    static void promise21BehindTwoMixesOneIsForgotten() {
        NewsCow x = Check.of("111;p1");
        due("two", x.once(0, 1), 2);
        x.answer(0, 6, 1);
        due("one", x.once(0, -1), 1);
        due("the first", x.once(0, 0), 2);
        due("no second", x.once(0, 1), NONE);
    }

    @Says("BAD: k below -1, too.")
    static void promise21KBelowMinusOneIsBad() {
        Edges.bad("once(0, -2)", Edges::rich, x -> x.once(0, -2));
        Edges.bad("once(0, MIN)", Edges::rich, x -> x.once(0, MIN));
    }

    static void promise21BadAheadOfNone() {
        Edges.bad("once(0, -2), five cows", () -> Check.of("11111;p1"), x -> x.once(0, -2));
        Edges.bad("once(0, -2), one cow", Edges18To28::oneCow, x -> x.once(0, -2));
        Edges.bad("once(1, 5)", Edges18To28::oneCow, x -> x.once(1, 5));
    }

    @Says("BAD: k below -1, too.")
    static void promise21NoSuchTasterIsBad() {
        for (int taster : NO_TASTERS) {
            Edges.bad("once(" + taster + ", -1)", Edges::rich, x -> x.once(taster, -1));
        }
        Edges.bad("once(0, -1), no herd", NewsCow::new, x -> x.once(0, -1));
    }

    static void promise21ChangesNothing() {
        Edges.changesNothing("once(0, 1)", Edges::rich, x -> x.once(0, 1));
        Edges.changesNothing("once(0, 1)", Edges::full, x -> x.once(0, 1));
    }

    // ---- 22 halves

    static void promise22NoneIfItMayBeOneAtMost() {
        for (int what = 0; what < 2; what++) {
            due("one cow", oneCow().halves(0, what), NONE);
            due("one of three", mayBe(2).halves(0, what), NONE);
            due("none of three", mayBeNone().halves(0, what), NONE);
            due("no cows", noCows().halves(0, what), NONE);
        }
    }

    private static void half(String text, int mix, int part) {
        due(text + ", the mix", Check.of(text).halves(0, 0), mix);
        due(text + ", how many", Check.of(text).halves(0, 1), part);
    }

    static void promise22TheLeastSetOfLikeOnes() {
        half("11;p1", 1, 1);
        half("111;p1", 1, 2);
        half("1111;p1", 3, 2);
        half("11111111;p1", 15, 4);
        half("11111111;f4", 15, 4);
        half("11111111;f3", 7, 5);
    }

    static void promise22AllAreOnePartIfNothingIsTold() {
        half("11;s9", 1, 2);
        half("11111111;s9", 1, 8);
    }

    @Says("BAD.")
    static void promise22WhatBelowZeroOrAboveOneIsBad() {
        for (int what : NO_PARTS) {
            Edges.bad("halves(0, " + what + ")", Edges::rich, x -> x.halves(0, what));
        }
    }

    static void promise22BadAheadOfNone() {
        Edges.bad("halves(0, 2)", Edges18To28::oneCow, x -> x.halves(0, 2));
        Edges.bad("halves(2, 0)", Edges18To28::mayBeNone, x -> x.halves(2, 0));
    }

    @Says("BAD.")
    static void promise22NoSuchTasterIsBad() {
        for (int taster : NO_TASTERS) {
            Edges.bad("halves(" + taster + ", 0)", Edges::rich, x -> x.halves(taster, 0));
        }
        Edges.bad("halves(0, 0), no herd", NewsCow::new, x -> x.halves(0, 0));
    }

    static void promise22ChangesNothing() {
        Edges.changesNothing("halves(0, 0)", Edges::rich, x -> x.halves(0, 0));
        Edges.changesNothing("halves(2, 1)", Edges::full, x -> x.halves(2, 1));
    }

    // ---- 23 likely

    private static void likely(String name, NewsCow x, int cow, int above, int below) {
        Edges.fraction(name, x.likely(cow, 0), x.likely(cow, 1), above, below);
    }

    static void promise23ZeroByOneIfSheMayNotBe() {
        likely("not she", mayBe(3), 2, 0, 1);
        likely("none", mayBeNone(), 2, 0, 1);
    }

    static void promise23OneByOneIfSheAlone() {
        likely("one cow", oneCow(), 0, 1, 1);
        likely("one cow of least milk", Check.of("1"), 0, 1, 1);
        likely("one of three", mayBe(4), 2, 1, 1);
    }

    static void promise23InLowestTerms() {
        likely("3 of 6", Check.of("123"), 2, 1, 2);
        likely("2 of 6", Check.of("123"), 1, 1, 3);
        likely("9 of 72", Check.of("99999999"), 7, 1, 8);
        likely("1 of 64", Check.of("19999999"), 0, 1, 64);
        likely("9 of 64", Check.of("19999999"), 7, 9, 64);
    }

    @Says("BAD.")
    static void promise23NoSuchCowOrWhatIsBad() {
        for (int cow : new int[] {-1, 3, MIN, MAX}) {
            Edges.bad("likely(" + cow + ", 0)", Edges::rich, x -> x.likely(cow, 0));
        }
        for (int what : NO_PARTS) {
            Edges.bad("likely(0, " + what + ")", Edges::rich, x -> x.likely(0, what));
        }
        Edges.bad("likely(8, 0)", Edges::full, x -> x.likely(8, 0));
        Edges.bad("likely(0, 1), no herd", NewsCow::new, x -> x.likely(0, 1));
        Edges.bad("likely(0, 2), of none", Edges18To28::mayBeNone, x -> x.likely(0, 2));
    }

    static void promise23ChangesNothing() {
        Edges.changesNothing("likely(1, 1)", Edges::rich, x -> x.likely(1, 1));
    }

    // ---- 24 noticed

    private static void noticed(String name, NewsCow x, int taster, int mix, int above, int below) {
        Edges.fraction(name, x.noticed(taster, mix, 0), x.noticed(taster, mix, 1), above, below);
    }

    static void promise24ZeroByOneIfItMayBeNone() {
        noticed("none", mayBeNone(), 0, 7, 0, 1);
    }

    static void promise24NeverAndEver() {
        noticed("asleep", Check.of("123;s9"), 0, 7, 0, 1);
        noticed("all", Check.of("123;p1"), 0, 7, 1, 1);
        noticed("one cow of least milk", Check.of("1;p1"), 0, 1, 1, 1);
        noticed("others", mayBe(3), 0, 4, 0, 1);
        noticed("fanciful", Check.of("123;f1"), 0, 3, 1, 1);
    }

    static void promise24InLowestTerms() {
        noticed("3 of 6", Check.of("123;p1"), 0, 3, 1, 2);
        noticed("63 of 64", Check.of("19999999;p1"), 0, 254, 63, 64);
        noticed("36 of 72", Check.of("99999999;p1"), 0, 15, 1, 2);
    }

    @Says("BAD.")
    static void promise24NoSuchTasterMixOrWhatIsBad() {
        for (int taster : NO_TASTERS) {
            Edges.bad("noticed(" + taster + ", 1, 0)", Edges::rich, x -> x.noticed(taster, 1, 0));
        }
        for (int mix : NO_MIXES) {
            Edges.bad("noticed(0, " + mix + ", 0)", Edges::rich, x -> x.noticed(0, mix, 0));
        }
        for (int what : NO_PARTS) {
            Edges.bad("noticed(0, 1, " + what + ")", Edges::rich, x -> x.noticed(0, 1, what));
        }
        Edges.bad("noticed(0, 256, 1)", Edges::full, x -> x.noticed(0, 256, 1));
        Edges.bad("noticed(0, 1, 1), no cows", Edges18To28::noCows, x -> x.noticed(0, 1, 1));
        Edges.bad("noticed(0, 8, 1), of none", Edges18To28::mayBeNone, x -> x.noticed(0, 8, 1));
    }

    static void promise24ChangesNothing() {
        Edges.changesNothing("noticed(3, 5, 1)", Edges::rich, x -> x.noticed(3, 5, 1));
    }

    // ---- 25 single

    private static void order(String name, Supplier<NewsCow> made, int above, int below, int... cows) {
        for (int k = 0; k < cows.length; k++) {
            due(name + ", the " + k + "-th", made.get().single(k), cows[k]);
        }
        due(name + ", not so many", made.get().single(cows.length), NONE);
        due(name + ", MAX", made.get().single(MAX), NONE);
        Edges.fraction(name + ", the mean", made.get().single(-1), made.get().single(-2), above, below);
    }

    @Says("(it MAY BE none: 0 by 1).")
    static void promise25ItMayBeNoneZeroByOne() {
        order("none", Edges18To28::mayBeNone, 0, 1);
        order("no herd", NewsCow::new, 0, 1);
    }

    static void promise25TheLastOneNeedsNoTrial() {
        order("one cow", Edges18To28::oneCow, 0, 1, 0);
        order("one of three", () -> mayBe(4), 0, 1, 2);
        order("two", () -> Check.of("19"), 1, 1, 0, 1);
        order("two of three", () -> mayBe(6), 1, 1, 1, 2);
    }

    static void promise25TheFirstByNumbersOfLikeOnes() {
        // 1, 2, .. 7, 7 times 9 of 72
        order("all alike", () -> Check.of("99999999"), 35, 8, 0, 1, 2, 3, 4, 5, 6, 7);
        // 9 once, then 5 and 1 twice, whichever comes first
        order("the last two", () -> Check.of("195"), 7, 5, 1, 0, 2);
        // 9 once, 9 twice, 1 and 7 three times
        order("two alike ahead", () -> Check.of("1997"), 51, 26, 1, 2, 0, 3);
    }

    static void promise25TimeAndAgainAsTheHerdGrowsAndShrinks() {
        NewsCow x = Check.of("159;p1");
        due("the first", x.single(0), 2);
        due("the first again", x.single(0), 2);
        due("no fourth", x.single(3), NONE);
        x.answer(0, 3, 1);
        due("no third", x.single(2), NONE);
        due("the second", x.single(1), 1);
        x.undo();
        due("the third", x.single(2), 1);
        x.cow(9);
        due("the fourth", x.single(3), 1);
        due("no fifth", x.single(4), NONE);
    }

    @Says("BAD: k below -2.")
    static void promise25KBelowMinusTwoIsBad() {
        Edges.bad("single(-3)", Edges::rich, x -> x.single(-3));
        Edges.bad("single(MIN)", Edges::rich, x -> x.single(MIN));
        Edges.bad("single(-3), no herd", NewsCow::new, x -> x.single(-3));
        Edges.bad("single(-3), none", Edges18To28::mayBeNone, x -> x.single(-3));
    }

    static void promise25ChangesNothing() {
        Edges.changesNothing("single(0)", Edges::rich, x -> x.single(0));
        Edges.changesNothing("single(-1)", Edges::full, x -> x.single(-1));
    }

    // ---- 26 share

    private static void share(String name, NewsCow x, int cow, int mix, int above, int below) {
        Edges.fraction(name, x.share(cow, mix, 0), x.share(cow, mix, 1), above, below);
    }

    static void promise26ZeroByOneIfSheIsNotInIt() {
        share("not in it", Check.of("123"), 0, 6, 0, 1);
    }

    static void promise26AloneOneByOne() {
        share("alone", Check.of("123"), 2, 4, 1, 1);
        share("one cow", Check.of("9"), 0, 1, 1, 1);
        share("one cow of least milk", Check.of("1"), 0, 1, 1, 1);
    }

    static void promise26InLowestTerms() {
        share("3 of 6", Check.of("123"), 2, 7, 1, 2);
        share("1 of 64", Check.of("19999999"), 0, 255, 1, 64);
        share("9 of 72", Check.of("99999999"), 7, 255, 1, 8);
    }

    static void promise26WhateverItMayBe() {
        share("none", mayBeNone(), 2, 6, 3, 5);
        share("not she", mayBe(1), 2, 6, 3, 5);
    }

    @Says("BAD.")
    static void promise26NoSuchCowMixOrWhatIsBad() {
        for (int cow : new int[] {-1, 3, MIN, MAX}) {
            Edges.bad("share(" + cow + ", 1, 0)", Edges::rich, x -> x.share(cow, 1, 0));
        }
        for (int mix : NO_MIXES) {
            Edges.bad("share(0, " + mix + ", 0)", Edges::rich, x -> x.share(0, mix, 0));
        }
        for (int what : NO_PARTS) {
            Edges.bad("share(0, 1, " + what + ")", Edges::rich, x -> x.share(0, 1, what));
        }
        Edges.bad("share(8, 1, 0)", Edges::full, x -> x.share(8, 1, 0));
        Edges.bad("share(0, 256, 1)", Edges::full, x -> x.share(0, 256, 1));
        Edges.bad("share(0, 1, 0), no herd", NewsCow::new, x -> x.share(0, 1, 0));
    }

    static void promise26ChangesNothing() {
        Edges.changesNothing("share(1, 3, 1)", Edges::rich, x -> x.share(1, 3, 1));
    }

    // ---- 27 image, 28 restore

    static void promise27OfNoHerdHolds() {
        NewsCow x = new NewsCow();
        due("image()", x.image(), 1);
        Check.herd(x, "12!;p1");
        x.seed(9);
        x.bear(0);
        due("restore()", x.restore(), 1);
        Edges.counts(x, 0, 0, 0, 0, NONE, 0, 0, 0);
        due("the draw", x.seed(1), 1);
        due("no cow", x.of(0), NewsCow.BAD);
    }

    static void promise27TheLaterOneIsInPlaceOfTheEarlier() {
        NewsCow x = Check.of("12");
        x.image();
        x.bear(1);
        due("again", x.image(), 1);
        x.bear(0);
        x.restore();
        due("the bearer", x.count(4), 1);
    }

    static void promise27IsNothingToBeUndone() {
        NewsCow x = Check.of("12");
        x.bear(1);
        x.image();
        due("count(7)", x.count(7), 1);
        x.undo();
        due("the bearer", x.count(4), NONE);
        due("undo leaves the image", x.restore(), 1);
        due("the bearer", x.count(4), 1);
    }

    @Says("NONE: there is none.")
    static void promise28NoneIfThereIsNone() {
        Edges.refused("no herd", NewsCow::new, NONE, x -> x.restore());
        Edges.refused("a herd", Edges18To28::mayBeNone, NONE, x -> x.restore());
    }

    static void promise28TimeAndAgain() {
        NewsCow x = Edges.rich();
        for (int k = 0; k < 3; k++) {
            due("restore()", x.restore(), 1);
            Edges.counts(x, 3, 4, 1, 3, 1, 6, 3, 1);
            x.milk(0, 9);
            x.drift(9);
            x.cow(5);
        }
    }

    static void promise28AllEightThatMayBeUndone() {
        NewsCow x = Check.of("12345678");
        for (int k = 0; k < 11; k++) {
            x.bear(k % 8);
        }
        x.image();
        x.taster(0, 1);
        for (int k = 0; k < 5; k++) {
            x.bear(k % 8);
        }
        x.restore();
        due("no taster", x.count(1), 0);
        for (int left = 7; left >= 0; left--) {
            due("undo()", x.undo(), left);
            due("the bearer", x.count(4), (2 + left) % 8);
        }
        due("undo()", x.undo(), NONE);
    }

    static void promise28OfTheLastDay() {
        NewsCow x = Edges.onDay(9999);
        x.image();
        Check.herd(x, "1;p1");
        due("day 0", x.count(2), 0);
        x.restore();
        due("day 9999", x.count(2), 9999);
        due("FULL", x.drink(0, 1), NewsCow.FULL);
    }

    static void promise28AllButSheetsAndTheTape() {
        NewsCow x = Edges.rich();
        x.drop(1);
        x.sheet(2, 1, 24);
        x.restore();
        due("sheet 0 stays", x.drop(0), 4);
        due("sheet 1 stays dropped", x.drop(1), NewsCow.NULL);
        due("sheet 2 stays", x.drop(2), 24);
        due("the tape stays", x.herd(), 2);
        Edges.counts(x, 2, 1, 0, 3, 0, 9, 9, 0);
    }

    static void promise28TheFirstAndTheLastCowAndTaster() {
        NewsCow x = Check.of("12345679;p1,d2,f3,o9");
        x.image();
        Check.herd(x, "98765431;o9,s8,s7,p6");
        x.restore();
        due("of(0)", x.of(0), 1);
        due("of(7)", x.of(7), 9);
        due("at(0, 0)", x.at(0, 0), 0);
        due("at(0, 1)", x.at(0, 1), 1);
        due("at(3, 0)", x.at(3, 0), 4);
        due("at(3, 1)", x.at(3, 1), 9);
    }

    static void promise28OfFullAndOfLess() {
        NewsCow x = Check.of("12;p1");
        x.image();
        Check.herd(x, "99999999;p1,d2,f3,o4");
        x.restore();
        due("a third cow", x.cow(3), 2);
        due("a second taster", x.taster(4, 5), 1);
        x = Edges.full();
        x.image();
        x.herd();
        x.restore();
        due("FULL", x.cow(1), NewsCow.FULL);
        due("FULL", x.taster(0, 1), NewsCow.FULL);
    }
}
