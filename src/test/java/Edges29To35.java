import java.util.function.Supplier;

/** Boundary cases of promises 29 to 35: sheets, and the rows that they tell. */
final class Edges29To35 {
    private static final int MAX = Edges.MAX;
    private static final int MIN = Edges.MIN;
    private static final int BAD = NewsCow.BAD;
    private static final int NOT = NewsCow.NOT;
    private static final int NULL = NewsCow.NULL;
    private static final int CAST = NewsCow.CAST;
    private static final int INDEX = NewsCow.INDEX;
    private static final int[] NO_NUMBERS = {-1, 4, MIN, MAX};

    private Edges29To35() {
    }

    private static void due(String call, long got, long want) {
        Edges.due(call, got, want);
    }

    /** Sheet 0 is of ints, sheet 1 of longs, sheet 2 is empty, sheet 3 holds nothing; no pair of sheet 0 is well. */
    private static NewsCow rows() {
        NewsCow x = Check.of("12!3;p1,d2");
        x.sheet(0, 2, 12);
        x.sheet(1, 3, 4);
        Check.items(x, 1, 3, 1, 1, 2, 0);
        x.sheet(2, 2, 0);
        x.answer(0, 3, 1);
        return x;
    }

    // ---- 29 fits

    private static int fits(NewsCow x, int n, int what) {
        return x.fits(0, 0, 2, 0, n, what);
    }

    static void promise29OnePairAndSixHold() {
        Supplier<NewsCow> made = () -> Check.row("11111111;p1", 1, 0, 2, 0, 4, 0, 8, 0, 16, 0, 32, 0);
        due("one", fits(made.get(), 1, 0), 254);
        due("six", fits(made.get(), 6, 0), 192);
        due("six, lies", fits(made.get(), 6, 1), 255);
    }

    @Says("BAD;")
    static void promise29NoPairAndSevenAreBad() {
        for (int n : new int[] {0, -1, 7, MIN, MAX}) {
            Edges.bad("n " + n, Edges29To35::rows, x -> x.fits(0, 0, 2, 0, n, 0));
        }
        Edges.bad("n 7 of 24", () -> {
            NewsCow x = rows();
            x.sheet(0, 2, 24);
            return x;
        }, x -> x.fits(0, 0, 2, 0, 7, 0));
    }

    @Says("BAD;")
    static void promise29NoSuchTasterSheetLaneOrWhatIsBad() {
        for (int number : NO_NUMBERS) {
            Edges.bad("taster " + number, Edges29To35::rows, x -> x.fits(number, 1, 3, 0, 1, 0));
            Edges.bad("sheet " + number, Edges29To35::rows, x -> x.fits(0, number, 3, 0, 1, 0));
            Edges.bad("lane " + number, Edges29To35::rows, x -> x.fits(0, 1, number, 0, 1, 0));
            Edges.bad("what " + number, Edges29To35::rows, x -> x.fits(0, 1, 3, 0, 1, number));
        }
        Edges.bad("taster 2", Edges29To35::rows, x -> x.fits(2, 1, 3, 0, 1, 0));
        Edges.bad("no herd", NewsCow::new, x -> x.fits(0, 0, 0, 0, 1, 0));
    }

    static void promise29BadAheadOfAllElse() {
        // sheet 3 holds nothing, and is taken behind its end
        Edges.bad("taster", Edges29To35::rows, x -> x.fits(2, 3, 2, 99, 1, 0));
        Edges.bad("lane", Edges29To35::rows, x -> x.fits(0, 3, 4, 99, 1, 0));
        Edges.bad("n", Edges29To35::rows, x -> x.fits(0, 3, 2, 99, 0, 0));
        Edges.bad("what", Edges29To35::rows, x -> x.fits(0, 3, 2, 99, 1, 4));
        Edges.bad("n ahead of CAST", Edges29To35::rows, x -> x.fits(0, 1, 2, 0, 7, 0));
        Edges.bad("n ahead of INDEX", Edges29To35::rows, x -> x.fits(0, 0, 2, -1, 7, 0));
        Edges.bad("what ahead of NOT", Edges29To35::rows, x -> x.fits(0, 0, 2, 0, 1, 4));
    }

    @Says("NULL;")
    static void promise29NullAheadOfCastAndIndex() {
        Edges.refused("NULL", Edges29To35::rows, NULL, x -> x.fits(0, 3, 2, 0, 1, 0));
        Edges.refused("NULL ahead of INDEX", Edges29To35::rows, NULL, x -> x.fits(0, 3, 2, -1, 6, 0));
        Edges.refused("NULL of any lane", Edges29To35::rows, NULL, x -> x.fits(0, 3, 0, 0, 1, 3));
    }

    @Says("CAST;")
    static void promise29CastAheadOfIndexAndNot() {
        Edges.refused("CAST", Edges29To35::rows, CAST, x -> x.fits(0, 0, 3, 0, 1, 0));
        Edges.refused("CAST ahead of INDEX", Edges29To35::rows, CAST, x -> x.fits(0, 0, 3, 12, 1, 0));
        Edges.refused("CAST of an empty row", Edges29To35::rows, CAST, x -> x.fits(0, 2, 0, 0, 1, 0));
    }

    @Says("INDEX;")
    static void promise29ToTheEndHoldsOneMoreIsIndex() {
        Supplier<NewsCow> made = () -> Check.row("111;p1", 1, 1, 3, 1, 5, 1);
        due("all", made.get().fits(0, 0, 2, 0, 3, 0), 1);
        due("the last pair", made.get().fits(0, 0, 2, 4, 1, 0), 5);
        for (int i : new int[] {5, 6, 7, -1, MIN, MAX, MAX - 1}) {
            Edges.refused("one pair from " + i, made, INDEX, x -> x.fits(0, 0, 2, i, 1, 0));
        }
        Edges.refused("three from 1", made, INDEX, x -> x.fits(0, 0, 2, 1, 3, 0));
        Edges.refused("four from 0", made, INDEX, x -> x.fits(0, 0, 2, 0, 4, 0));
        Edges.refused("an empty row", Edges29To35::rows, INDEX, x -> x.fits(0, 2, 2, 0, 1, 0));
    }

    static void promise29TheLastPairsOfTwentyFourItems() {
        NewsCow x = Check.of("11;p1");
        x.sheet(0, 2, 24);
        for (int i = 12; i < 24; i++) {
            x.item(0, 2, i, 1);
        }
        due("six from 12", x.fits(0, 0, 2, 12, 6, 0), 1);
        due("six from 13", x.fits(0, 0, 2, 13, 6, 0), INDEX);
    }

    static void promise29IndexAheadOfNot() {
        // no pair of sheet 0 is a mix and an answer
        Edges.refused("INDEX", Edges29To35::rows, INDEX, x -> x.fits(0, 0, 2, 1, 6, 0));
        Edges.refused("NOT", Edges29To35::rows, NOT, x -> x.fits(0, 0, 2, 0, 6, 0));
    }

    @Says("NOT: a MIX is not of COWS that there are, 1 at least,")
    static void promise29NotIfAMixIsNotOfCowsThatThereAre() {
        for (long mix : new long[] {0, 8, 255, -1, MIN, MAX}) {
            for (int what = 0; what < 4; what++) {
                due("mix " + mix, fits(Check.row("111;p1", mix, 1, 1, 1), 2, what), NOT);
                due("mix " + mix + ", the second", fits(Check.row("111;p1", 1, 1, mix, 1), 2, what), NOT);
            }
        }
        due("the first mix", fits(Check.row("111;p1", 1, 1), 1, 0), 1);
        due("the last mix", fits(Check.row("111;p1", 7, 1), 1, 0), 7);
        due("the last mix of eight", fits(Check.row("11111111;p1", 255, 1), 1, 0), 255);
        due("256", fits(Check.row("11111111;p1", 256, 1), 1, 0), NOT);
        Edges.refused("NOT", () -> Check.row("111;p1", 8, 1), NOT, x -> fits(x, 1, 0));
    }

    @Says("an answer is not 0, 1.")
    static void promise29NotIfAnAnswerIsNotZeroOrOne() {
        for (long is : new long[] {2, -1, 256, MIN, MAX}) {
            for (int what = 0; what < 4; what++) {
                due("answer " + is, fits(Check.row("111;p1", 1, is, 1, 1), 2, what), NOT);
                due("answer " + is + ", the second", fits(Check.row("111;p1", 1, 1, 1, is), 2, what), NOT);
            }
        }
        due("0", fits(Check.row("111;p1", 1, 0), 1, 0), 6);
    }

    static void promise29LongsAreNotCut() {
        NewsCow x = Check.of("111;p1");
        x.sheet(0, 3, 2);
        Check.items(x, 0, 3, (1L << 32) + 1, 1);
        due("a mix", x.fits(0, 0, 3, 0, 1, 0), NOT);
        Check.items(x, 0, 3, 1, (1L << 32) + 1);
        due("an answer", x.fits(0, 0, 3, 0, 1, 0), NOT);
        Check.items(x, 0, 3, 1, 1L << 63);
        due("an answer", x.fits(0, 0, 3, 0, 1, 0), NOT);
    }

    static void promise29PairsOutsideTheRowDoNotMatter() {
        NewsCow x = Check.row("111;p1", 0, 9, 3, 1, 0, 9);
        due("from 2 on", x.fits(0, 0, 2, 2, 1, 0), 3);
        due("from 0 on", x.fits(0, 0, 2, 0, 2, 0), NOT);
        due("to the end", x.fits(0, 0, 2, 2, 2, 0), NOT);
    }

    static void promise29FitsOfAllThatThereAre() {
        NewsCow x = Check.row("111;p1", 3, 1);
        x.answer(0, 7, 0);
        due("it may be none", fits(x, 1, 0), 3);
        due("lies", fits(x, 1, 1), 7);
    }

    static void promise29NoneFits() {
        due("fits", fits(Check.row("111;p1", 1, 1, 6, 1), 2, 0), 0);
        due("kinds", fits(Check.row("1;p1", 1, 1, 1, 0), 2, 2), 0);
        due("how fine", fits(Check.row("1;p1", 1, 1, 1, 0), 2, 3), 0);
    }

    static void promise29LiesOfOneAtMost() {
        due("none of one", fits(Check.row("111;p1", 1, 1), 1, 1), 7);
        due("one of two", fits(Check.row("111;p1", 1, 1, 2, 1), 2, 1), 3);
        due("two of two", fits(Check.row("1;p1", 1, 0, 1, 0), 2, 1), 0);
        due("two of three", fits(Check.row("111;p1", 1, 1, 2, 1, 4, 1), 3, 1), 0);
        due("one of six", fits(Check.row("11;p1", 1, 1, 1, 1, 1, 1, 1, 1, 1, 1, 2, 1), 6, 1), 1);
        due("two of six", fits(Check.row("11;p1", 1, 1, 1, 1, 1, 1, 1, 1, 2, 1, 2, 1), 6, 1), 0);
    }

    static void promise29KindsByTheDay() {
        // one cow in a mix of her own: asleep on day 0; the other way round on day 1
        NewsCow x = Check.row("1;p1", 1, 1);
        due("day 0", fits(x, 1, 2), 0b10111);
        x.answer(0, 1, 1);
        due("day 1", fits(x, 1, 2), 0b01111);
        due("day 0, not noticed", fits(Check.row("1;p1", 1, 0), 1, 2), 0b01000);
        due("all", fits(Check.row("11;p1", 1, 0), 1, 2), 0b11111);
    }

    static void promise29HowFineFromOneToNine() {
        due("any", fits(Check.row("11;p5", 1, 1), 1, 3), 0b1111111110);
        due("dull, 1 * 9 of 9", fits(Check.row("18;d1", 3, 1, 2, 0), 2, 3), 0b1000000000);
        due("dull, 1 * 9 of 10", fits(Check.row("19;d1", 3, 1, 2, 0), 2, 3), 0);
        due("fanciful, below 2", fits(Check.row("111;f9", 3, 1, 4, 1), 2, 3), 0b10);
        due("fanciful, below 8", fits(Check.row("11111111;f9", 255, 1, 1, 0), 2, 3), 0b1111111110);
        due("fanciful, from 8 on", fits(Check.row("11111111;f1", 255, 0), 1, 3), 0);
    }

    static void promise29ChangesNothing() {
        Edges.changesNothing("fits", Edges::rich, x -> x.fits(1, 1, 2, 0, 3, 0));
        Edges.changesNothing("tastes", Edges::rich, x -> x.fits(1, 1, 2, 0, 3, 2));
    }

    // ---- 30 slips

    private static void slips(String name, NewsCow x, int cow, int c, int n, long above, long below) {
        Edges.fraction(name, x.slips(cow, 0, c, 0, 2, 0, n, 0), x.slips(cow, 0, c, 0, 2, 0, n, 1), above, below);
    }

    static void promise30SlipsByZeroAndTenHold() {
        slips("never", Check.row("11;p1", 1, 1), 0, 0, 1, 1, 1);
        slips("never, the other", Check.row("11;p1", 1, 1), 1, 0, 1, 0, 1);
        slips("ever", Check.row("11;p1", 1, 1), 0, 10, 1, 0, 1);
        slips("ever, the other", Check.row("11;p1", 1, 1), 1, 10, 1, 1, 1);
    }

    @Says("BAD;")
    static void promise30SlipsBelowZeroOrAboveTenAreBad() {
        for (int c : new int[] {-1, 11, MIN, MAX}) {
            Edges.bad("c " + c, Edges29To35::rows, x -> x.slips(0, 0, c, 1, 3, 0, 1, 0));
        }
    }

    static void promise30TheLeastThatCanBeWeighed() {
        // one cow that gives 1, an answer that slips by 9 of 10: 1 of 1
        slips("she", Check.row("1;p1", 1, 1), 0, 9, 1, 1, 1);
    }

    @Says(terms = "(0 by 1, if the row could not be told at all).")
    static void promise30ZeroByOneIfTheRowCouldNotBeTold() {
        slips("never", Check.row("11;p1", 1, 1, 2, 1), 0, 0, 2, 0, 1);
        slips("never, the other", Check.row("11;p1", 1, 1, 2, 1), 1, 0, 2, 0, 1);
        slips("ever", Check.row("11;p1", 1, 1, 2, 1), 0, 10, 2, 0, 1);
        NewsCow x = Check.row("11;p1", 1, 1);
        x.answer(0, 3, 0);
        slips("it may be none", x, 0, 5, 1, 0, 1);
    }

    static void promise30ZeroByOneIfSheMayNotBe() {
        NewsCow x = Check.row("123;p1", 1, 1);
        x.answer(0, 6, 1);
        slips("not she", x, 0, 1, 1, 0, 1);
        slips("she", x, 1, 1, 1, 2, 5);
    }

    static void promise30OnePairAndSixHold() {
        // 9 * 9 of 9 * 9 and 7; six times so: 9 * 531441 of that and 7
        slips("one", Check.row("97;p1", 1, 1), 0, 1, 1, 81, 88);
        slips("six", Check.row("97;p1", 1, 1, 1, 1, 1, 1, 1, 1, 1, 1, 1, 1), 0, 1, 6, 4782969, 4782976);
        slips("six, the other", Check.row("97;p1", 1, 1, 1, 1, 1, 1, 1, 1, 1, 1, 1, 1), 1, 1, 6, 7, 4782976);
    }

    static void promise30OfTheGreatestHerd() {
        // 9 ^ 7 of that and 7 times 9
        NewsCow x = Check.row("99999999;p1", 1, 1, 1, 1, 1, 1, 1, 1, 1, 1, 1, 1);
        slips("she", x, 0, 1, 6, 531441, 531448);
        slips("another", x, 7, 1, 6, 1, 531448);
    }

    @Says("BAD;")
    static void promise30NoPairAndSevenAreBad() {
        for (int n : new int[] {0, -1, 7, MIN, MAX}) {
            Edges.bad("n " + n, Edges29To35::rows, x -> x.slips(0, 0, 1, 1, 3, 0, n, 0));
        }
    }

    @Says("BAD;")
    static void promise30NoSuchCowTasterSheetLaneOrWhatIsBad() {
        for (int number : NO_NUMBERS) {
            Edges.bad("cow " + number, Edges29To35::rows, x -> x.slips(number, 0, 1, 1, 3, 0, 1, 0));
            Edges.bad("taster " + number, Edges29To35::rows, x -> x.slips(0, number, 1, 1, 3, 0, 1, 0));
            Edges.bad("sheet " + number, Edges29To35::rows, x -> x.slips(0, 0, 1, number, 3, 0, 1, 0));
            Edges.bad("lane " + number, Edges29To35::rows, x -> x.slips(0, 0, 1, 1, number, 0, 1, 0));
            Edges.bad("what " + number, Edges29To35::rows, x -> x.slips(0, 0, 1, 1, 3, 0, 1, number));
        }
        Edges.bad("cow 3", Edges29To35::rows, x -> x.slips(3, 0, 1, 1, 3, 0, 1, 0));
        Edges.bad("taster 2", Edges29To35::rows, x -> x.slips(0, 2, 1, 1, 3, 0, 1, 0));
        Edges.bad("what 2", Edges29To35::rows, x -> x.slips(0, 0, 1, 1, 3, 0, 1, 2));
        Edges.bad("no herd", NewsCow::new, x -> x.slips(0, 0, 0, 0, 0, 0, 1, 0));
    }

    static void promise30BadAheadOfAllElse() {
        Edges.bad("cow", Edges29To35::rows, x -> x.slips(3, 0, 1, 3, 2, 99, 1, 0));
        Edges.bad("taster", Edges29To35::rows, x -> x.slips(0, 2, 1, 3, 2, 99, 1, 0));
        Edges.bad("c", Edges29To35::rows, x -> x.slips(0, 0, 11, 3, 2, 99, 1, 0));
        Edges.bad("lane", Edges29To35::rows, x -> x.slips(0, 0, 1, 3, 4, 99, 1, 0));
        Edges.bad("n", Edges29To35::rows, x -> x.slips(0, 0, 1, 3, 2, 99, 7, 0));
        Edges.bad("what", Edges29To35::rows, x -> x.slips(0, 0, 1, 3, 2, 99, 1, 2));
        Edges.bad("what ahead of CAST", Edges29To35::rows, x -> x.slips(0, 0, 1, 1, 2, 0, 1, 2));
        Edges.bad("what ahead of NOT", Edges29To35::rows, x -> x.slips(0, 0, 1, 0, 2, 0, 1, 2));
    }

    @Says("NULL; CAST; INDEX; NOT: likewise.")
    static void promise30NullCastIndexNotInThisOrder() {
        Edges.refused("NULL ahead of INDEX", Edges29To35::rows, NULL, x -> x.slips(0, 0, 1, 3, 2, -1, 6, 0));
        Edges.refused("CAST ahead of INDEX", Edges29To35::rows, CAST, x -> x.slips(0, 0, 1, 1, 2, 9, 1, 0));
        Edges.refused("INDEX ahead of NOT", Edges29To35::rows, INDEX, x -> x.slips(0, 0, 1, 0, 2, 1, 6, 0));
        Edges.refused("NOT", Edges29To35::rows, NOT, x -> x.slips(0, 0, 1, 0, 2, 0, 6, 0));
        Edges.refused("NOT, though she may not be", Edges29To35::rows, NOT, x -> x.slips(2, 0, 1, 0, 2, 0, 1, 0));
    }

    static void promise30ToTheEndHoldsOneMoreIsIndex() {
        due("the last pair", rows().slips(0, 0, 0, 1, 3, 2, 1, 0), 1);
        for (int i : new int[] {3, 4, -1, MIN, MAX, MAX - 1}) {
            Edges.refused("from " + i, Edges29To35::rows, INDEX, x -> x.slips(0, 0, 0, 1, 3, i, 1, 0));
        }
        Edges.refused("two from 1", Edges29To35::rows, INDEX, x -> x.slips(0, 0, 0, 1, 3, 1, 2, 0));
    }

    @Says("NOT: likewise.")
    static void promise30NotLikewise() {
        for (long[] pair : new long[][] {{0, 1}, {8, 1}, {-1, 1}, {1, 2}, {1, -1}}) {
            due("NOT", Check.row("111;p1", pair).slips(0, 0, 1, 0, 2, 0, 1, 0), NOT);
            due("NOT", Check.row("111;p1", pair).slips(0, 0, 1, 0, 2, 0, 1, 1), NOT);
        }
    }

    static void promise30ChangesNothing() {
        Edges.changesNothing("slips", Edges::rich, x -> x.slips(1, 1, 3, 1, 2, 0, 6, 0));
    }

    // ---- 31 film

    /** Item i of a sheet as a mix of eight cows; NOT: it is none. */
    private static int mixAt(NewsCow x, int sheet, int lane, int i) {
        int pair = sheet == 0 ? 1 : 0;
        x.herd();
        Check.herd(x, "11111111;p1");
        x.sheet(pair, lane, 2);
        x.item(pair, lane, 1, 1);
        x.copy(sheet, i, pair, 0, 1);
        return x.fits(0, pair, lane, 0, 1, 0);
    }

    static void promise31OneAndTwentyFourHold() {
        NewsCow x = Check.of("11111;p1");
        x.sheet(0, 2, 24);
        due("film of 1", x.film(0, 1, 0, 2, 23), 1);
        due("the last item", mixAt(x, 0, 2, 23), 1);
        due("none ahead of it", mixAt(x, 0, 2, 22), NOT);
        x = Check.of("11111;p1");
        x.sheet(0, 2, 24);
        due("film of 24", x.film(0, 24, 0, 2, 0), 24);
        due("the last item", mixAt(x, 0, 2, 23), 24);
    }

    @Says("BAD (such a MIX is none, too);")
    static void promise31BelowOneOrAboveTwentyFourIsBad() {
        for (int n : new int[] {0, -1, 25, MIN, MAX}) {
            Edges.bad("n " + n, Edges::full, x -> x.film(0, n, 1, 2, 0));
        }
    }

    @Says("BAD (such a MIX is none, too);")
    static void promise31OfCowsThatThereAreBadToo() {
        String[] texts = {"1;p1", "11;p1", "111;p1", "1111;p1"};
        for (String text : texts) {
            Supplier<NewsCow> made = () -> Check.row(text, new long[24]);
            int last = (1 << made.get().count(0)) - 1;
            due(text + ", the last mix", made.get().film(0, last, 0, 2, 0), last);
            Edges.bad(text + ", one more", made, x -> x.film(0, last + 1, 0, 2, 0));
        }
        Edges.bad("no cows", () -> {
            NewsCow x = new NewsCow();
            x.taster(0, 1);
            x.sheet(0, 2, 1);
            return x;
        }, x -> x.film(0, 1, 0, 2, 0));
    }

    @Says("BAD (such a MIX is none, too);")
    static void promise31NoSuchTasterSheetOrLaneIsBad() {
        for (int number : NO_NUMBERS) {
            Edges.bad("taster " + number, Edges::rich, x -> x.film(number, 1, 1, 2, 0));
            Edges.bad("sheet " + number, Edges::rich, x -> x.film(0, 1, number, 2, 0));
            Edges.bad("lane " + number, Edges::rich, x -> x.film(0, 1, 1, number, 0));
        }
        Edges.bad("no herd", NewsCow::new, x -> x.film(0, 1, 0, 0, 0));
    }

    static void promise31BadAheadOfAllElse() {
        Edges.bad("such a mix is none, ahead of NULL", Edges29To35::rows, x -> x.film(0, 8, 3, 2, 0));
        Edges.bad("such a mix is none, ahead of CAST", Edges29To35::rows, x -> x.film(0, 8, 0, 3, 0));
        Edges.bad("such a mix is none, ahead of INDEX", Edges29To35::rows, x -> x.film(0, 8, 0, 2, 9));
        Edges.bad("taster", Edges29To35::rows, x -> x.film(2, 1, 3, 2, 0));
        Edges.bad("lane", Edges29To35::rows, x -> x.film(0, 1, 3, 4, 0));
    }

    @Says("NULL; CAST;")
    static void promise31NullCastIndexInThisOrder() {
        Edges.refused("NULL", Edges29To35::rows, NULL, x -> x.film(0, 1, 3, 2, 0));
        Edges.refused("NULL ahead of INDEX", Edges29To35::rows, NULL, x -> x.film(0, 1, 3, 2, -1));
        Edges.refused("CAST", Edges29To35::rows, CAST, x -> x.film(0, 1, 0, 3, 0));
        Edges.refused("CAST ahead of INDEX", Edges29To35::rows, CAST, x -> x.film(0, 1, 0, 3, 12));
    }

    @Says("INDEX.")
    static void promise31ToTheEndHoldsOneMoreIsIndex() {
        due("seven from 5", rows().film(0, 7, 0, 2, 5), 7);
        Edges.refused("seven from 6", Edges29To35::rows, INDEX, x -> x.film(0, 7, 0, 2, 6));
        due("one from 11", rows().film(0, 1, 0, 2, 11), 1);
        for (int i : new int[] {12, 13, -1, MIN, MAX}) {
            Edges.refused("one from " + i, Edges29To35::rows, INDEX, x -> x.film(0, 1, 0, 2, i));
        }
        Edges.refused("an empty row", Edges29To35::rows, INDEX, x -> x.film(0, 1, 2, 2, 0));
    }

    static void promise31ItemsOutsideStay() {
        Supplier<NewsCow> made = () -> {
            NewsCow x = Check.row("111;p1", 8, 8, 8, 8, 8);
            x.film(0, 3, 0, 2, 1);
            return x;
        };
        int[] wants = {8, 1, 2, 3, 8};
        for (int i = 0; i < wants.length; i++) {
            due("item " + i, mixAt(made.get(), 0, 2, i), wants[i]);
        }
    }

    static void promise31OfThoseThatItMayBe() {
        NewsCow x = Check.row("111;p1", 8, 8, 8);
        x.answer(0, 2, 1);
        x.film(0, 3, 0, 2, 0);
        due("mix 1", mixAt(x, 0, 2, 0), NOT);
        due("mix 2", mixAt(x, 0, 2, 1), 2);
        due("mix 3", mixAt(x, 0, 2, 2), 2);
    }

    static void promise31LowestBitsOfALane() {
        // fanciful by 1: of two cows all eight are told, which is -1 as a byte
        for (int lane = 0; lane < 4; lane++) {
            NewsCow x = Check.of("11111111;f1");
            x.sheet(2, lane, 3);
            due("film", x.film(0, 3, 2, lane, 0), 3);
            due("lane " + lane, mixAt(x, 2, lane, 2), lane == 0 ? NOT : 255);
        }
    }

    static void promise31ChangesTheSheetAlone() {
        NewsCow x = Edges.rich();
        due("film", x.film(3, 7, 1, 2, 0), 7);
        due("sheet 0 stays", x.drop(0), 4);
        due("the length stays", x.drop(1), 12);
        due("the tape stays", x.type(' '), 7);
        due("what may be undone stays", x.undo(), 7);
    }

    // ---- 32 sheet

    static void promise32NoItemAndTwentyFourHold() {
        for (int sheet = 0; sheet < 4; sheet++) {
            for (int lane = 0; lane < 4; lane++) {
                NewsCow x = new NewsCow();
                due("none", x.sheet(sheet, lane, 0), 0);
                due("no item", x.item(sheet, lane, 0, 1), INDEX);
                due("24", x.sheet(sheet, lane, 24), 24);
                due("the last item", x.item(sheet, lane, 23, 1), 1);
                due("one more", x.item(sheet, lane, 24, 1), INDEX);
            }
        }
    }

    @Says("BAD: also n above 24;")
    static void promise32AboveTwentyFourIsBad() {
        Edges.bad("25", Edges::rich, x -> x.sheet(1, 2, 25));
        Edges.bad("MAX", Edges::rich, x -> x.sheet(1, 2, MAX));
    }

    @Says("SIZE: n below 0.")
    static void promise32BelowZeroIsSize() {
        Edges.refused("-1", Edges::rich, NewsCow.SIZE, x -> x.sheet(1, 2, -1));
        Edges.refused("MIN", Edges::rich, NewsCow.SIZE, x -> x.sheet(1, 0, MIN));
        Edges.refused("-1, where nothing is", Edges::rich, NewsCow.SIZE, x -> x.sheet(2, 0, -1));
    }

    @Says("BAD: also n above 24;")
    static void promise32NoSuchSheetOrLaneIsBad() {
        for (int number : NO_NUMBERS) {
            Edges.bad("sheet " + number, Edges::rich, x -> x.sheet(number, 0, 1));
            Edges.bad("lane " + number, Edges::rich, x -> x.sheet(0, number, 1));
        }
    }

    static void promise32BadAheadOfSize() {
        for (int number : NO_NUMBERS) {
            Edges.bad("sheet " + number, Edges::rich, x -> x.sheet(number, 0, -1));
            Edges.bad("lane " + number, Edges::rich, x -> x.sheet(0, number, -1));
        }
    }

    static void promise32ANewRowIsOfZeros() {
        NewsCow x = Check.row("111;p1", 1, 1, 2, 1);
        x.sheet(0, 2, 4);
        due("no mix", x.fits(0, 0, 2, 0, 1, 0), NOT);
        x.item(0, 2, 0, 1);
        due("an answer of 0", x.fits(0, 0, 2, 0, 1, 0), 6);
        x = Check.row("111;p1", 1, 1, 2, 1);
        x.sheet(0, 2, 2);
        x.sheet(0, 2, 4);
        due("behind a shorter one", x.fits(0, 0, 2, 2, 1, 0), NOT);
    }

    static void promise32AnotherLaneInItsPlace() {
        NewsCow x = Check.row("111;p1", 1, 1);
        due("sheet", x.sheet(0, 1, 2), 2);
        due("as it was", x.item(0, 2, 0, 1), CAST);
        due("as it is", x.item(0, 1, 0, 1), 1);
    }

    // ---- 33 drop

    @Says("NULL.")
    static void promise33NullIfItHoldsNothing() {
        Edges.refused("never one", Edges::rich, NULL, x -> x.drop(2));
        Edges.refused("dropped", () -> {
            NewsCow x = Edges.rich();
            x.drop(0);
            return x;
        }, NULL, x -> x.drop(0));
        Edges.refused("no herd", NewsCow::new, NULL, x -> x.drop(3));
    }

    static void promise33NoItemAndTwentyFour() {
        NewsCow x = new NewsCow();
        x.sheet(0, 3, 0);
        due("none", x.drop(0), 0);
        due("again", x.drop(0), NULL);
        x.sheet(3, 0, 24);
        due("24", x.drop(3), 24);
        due("again", x.drop(3), NULL);
    }

    @Says("BAD;")
    static void promise33NoSuchSheetIsBad() {
        for (int number : NO_NUMBERS) {
            Edges.bad("drop(" + number + ")", Edges::rich, x -> x.drop(number));
        }
    }

    static void promise33OthersStay() {
        NewsCow x = Edges.rich();
        x.drop(0);
        due("drop(1)", x.drop(1), 12);
        due("drop(3)", x.drop(3), 0);
    }

    // ---- 34 item

    @Says("INDEX.")
    static void promise34TheFirstAndTheLastHoldTheNextIsIndex() {
        due("the first", Edges.rich().item(1, 2, 0, 1), 1);
        due("the last", Edges.rich().item(1, 2, 11, 1), 1);
        for (int i : new int[] {12, 24, -1, MIN, MAX}) {
            Edges.refused("item " + i, Edges::rich, INDEX, x -> x.item(1, 2, i, 9));
        }
        Edges.refused("an empty row", Edges::rich, INDEX, x -> x.item(3, 3, 0, 9));
    }

    @Says("BAD;")
    static void promise34NoSuchSheetOrLaneIsBad() {
        for (int number : NO_NUMBERS) {
            Edges.bad("sheet " + number, Edges::rich, x -> x.item(number, 0, 0, 9));
            Edges.bad("lane " + number, Edges::rich, x -> x.item(1, number, 0, 9));
        }
    }

    @Says("BAD; NULL; CAST;")
    static void promise34BadNullCastIndexInThisOrder() {
        Edges.bad("BAD ahead of NULL", Edges::rich, x -> x.item(2, 4, 0, 9));
        Edges.bad("BAD ahead of INDEX", Edges::rich, x -> x.item(1, -1, 99, 9));
        Edges.refused("NULL", Edges::rich, NULL, x -> x.item(2, 0, 0, 9));
        Edges.refused("NULL ahead of INDEX", Edges::rich, NULL, x -> x.item(2, 2, -1, 9));
        Edges.refused("CAST", Edges::rich, CAST, x -> x.item(1, 3, 0, 9));
        Edges.refused("CAST ahead of INDEX", Edges::rich, CAST, x -> x.item(1, 3, 12, 9));
    }

    /** A value put as a mix: which one it is then, or NOT. */
    private static int asMix(int lane, long value) {
        NewsCow x = Check.of("11111111;p1");
        x.sheet(0, lane, 2);
        Check.items(x, 0, lane, value, 1);
        return x.fits(0, 0, lane, 0, 1, 0);
    }

    /** A value put as an answer to a mix of cow 0: which one it is then, or NOT. */
    private static int asAnswer(int lane, long value) {
        NewsCow x = Check.of("11111111;p1");
        x.sheet(0, lane, 2);
        Check.items(x, 0, lane, 1, value);
        int fit = x.fits(0, 0, lane, 0, 1, 0);
        return fit == 1 ? 1 : fit == 254 ? 0 : fit;
    }

    static void promise34LowestBitsOfBytes() {
        due("127", asMix(0, 127), 127);
        due("128 is -128", asMix(0, 128), NOT);
        due("255 is -1", asMix(0, 255), NOT);
        due("256 is 0", asAnswer(0, 256), 0);
        due("257 is 1", asAnswer(0, 257), 1);
        due("-255 is 1", asAnswer(0, -255), 1);
        due("-129 is 127", asMix(0, -129), 127);
        due("the least long is 0", asAnswer(0, Long.MIN_VALUE), 0);
        due("the greatest long is -1", asAnswer(0, Long.MAX_VALUE), NOT);
    }

    static void promise34LowestBitsOfShorts() {
        due("255", asMix(1, 255), 255);
        due("256", asMix(1, 256), NOT);
        due("32769 is below 0", asMix(1, 32769), NOT);
        due("65536 is 0", asAnswer(1, 65536), 0);
        due("65537 is 1", asAnswer(1, 65537), 1);
        due("-65535 is 1", asAnswer(1, -65535), 1);
        due("65536 + 255 is 255", asMix(1, 65791), 255);
    }

    static void promise34LowestBitsOfInts() {
        due("255", asMix(2, 255), 255);
        due("2 ^ 31 + 1 is below 0", asMix(2, (1L << 31) + 1), NOT);
        due("2 ^ 32 is 0", asAnswer(2, 1L << 32), 0);
        due("2 ^ 32 + 1 is 1", asAnswer(2, (1L << 32) + 1), 1);
        due("1 - 2 ^ 32 is 1", asAnswer(2, 1 - (1L << 32)), 1);
        due("2 ^ 16 is not cut", asAnswer(2, 65536), NOT);
    }

    static void promise34AllBitsOfLongs() {
        due("255", asMix(3, 255), 255);
        due("2 ^ 32 + 1", asMix(3, (1L << 32) + 1), NOT);
        due("the least", asAnswer(3, Long.MIN_VALUE), NOT);
        due("the greatest", asAnswer(3, Long.MAX_VALUE), NOT);
    }

    static void promise34OthersStay() {
        NewsCow x = Check.row("11111111;p1", 1, 1, 2, 1, 4, 1);
        x.item(0, 2, 2, 8);
        due("ahead of it", x.fits(0, 0, 2, 0, 1, 0), 1);
        due("it", x.fits(0, 0, 2, 2, 1, 0), 8);
        due("behind it", x.fits(0, 0, 2, 4, 1, 0), 4);
    }

    // ---- 35 copy

    /** Sheets 0 and 1 of ints, 1, 2, 4 and so on in each, sheet 2 of bytes, sheet 3 holds nothing. */
    private static NewsCow powers() {
        NewsCow x = Check.row("11111111;p1", 1, 2, 4, 8, 16, 32);
        x.sheet(1, 2, 4);
        Check.items(x, 1, 2, 64, 128, 3, 5);
        x.sheet(2, 0, 6);
        return x;
    }

    /** What a sheet holds behind a copy. */
    private static void copied(String name, int from, int i, int to, int j, int n, int... wants) {
        due(name, powers().copy(from, i, to, j, n), n);
        for (int k = 0; k < wants.length; k++) {
            NewsCow x = powers();
            x.copy(from, i, to, j, n);
            due(name + ", item " + k, mixAt(x, to, 2, k), wants[k]);
        }
    }

    static void promise35AsIfAllWereTakenAhead() {
        copied("rising by one", 0, 0, 0, 1, 5, 1, 1, 2, 4, 8, 16);
        copied("falling by one", 0, 1, 0, 0, 5, 2, 4, 8, 16, 32, 32);
        copied("rising by two", 0, 0, 0, 2, 4, 1, 2, 1, 2, 4, 8);
        copied("falling by two", 0, 2, 0, 0, 4, 4, 8, 16, 32, 16, 32);
        copied("in place", 0, 0, 0, 0, 6, 1, 2, 4, 8, 16, 32);
        copied("apart", 0, 0, 0, 3, 3, 1, 2, 4, 1, 2, 4);
    }

    static void promise35ToAnotherOneAndToTheEnd() {
        copied("all of the shorter", 1, 0, 0, 2, 4, 1, 2, 64, 128, 3, 5);
        copied("as many as it holds", 0, 2, 1, 0, 4, 4, 8, 16, 32);
        copied("the last one", 0, 5, 1, 3, 1, 64, 128, 3, 32);
        for (int k = 0; k < 6; k++) {
            NewsCow x = powers();
            x.copy(0, 0, 1, 0, 4);
            due("the other stays", mixAt(x, 0, 2, k), 1 << k);
        }
    }

    static void promise35NoItemsHold() {
        Edges.refused("none at the first", Edges29To35::powers, 0, x -> x.copy(0, 0, 1, 0, 0));
        Edges.refused("none at both ends", Edges29To35::powers, 0, x -> x.copy(0, 6, 1, 4, 0));
        due("of empty rows", rows().copy(2, 0, 2, 0, 0), 0);
    }

    @Says("INDEX.")
    static void promise35OneMoreThanThereAreIsIndex() {
        Edges.refused("from, n", Edges29To35::powers, INDEX, x -> x.copy(0, 0, 0, 0, 7));
        Edges.refused("from, i", Edges29To35::powers, INDEX, x -> x.copy(0, 3, 1, 0, 4));
        Edges.refused("to, n", Edges29To35::powers, INDEX, x -> x.copy(0, 0, 1, 0, 5));
        Edges.refused("to, j", Edges29To35::powers, INDEX, x -> x.copy(0, 0, 1, 1, 4));
        Edges.refused("none behind the end, i", Edges29To35::powers, INDEX, x -> x.copy(0, 7, 1, 0, 0));
        Edges.refused("none behind the end, j", Edges29To35::powers, INDEX, x -> x.copy(0, 0, 1, 5, 0));
        Edges.refused("an empty row", Edges29To35::rows, INDEX, x -> x.copy(0, 0, 2, 0, 1));
    }

    @Says("INDEX.")
    static void promise35BelowZeroOrFarTooMuchIsIndex() {
        for (int k : new int[] {-1, MIN, MAX}) {
            Edges.refused("i " + k, Edges29To35::powers, INDEX, x -> x.copy(0, k, 1, 0, 1));
            Edges.refused("j " + k, Edges29To35::powers, INDEX, x -> x.copy(0, 0, 1, k, 1));
            Edges.refused("n " + k, Edges29To35::powers, INDEX, x -> x.copy(0, 1, 1, 1, k));
            Edges.refused("all " + k, Edges29To35::powers, INDEX, x -> x.copy(0, k, 1, k, k));
            Edges.refused("none, i " + k, Edges29To35::powers, INDEX, x -> x.copy(0, k, 1, 0, 0));
            Edges.refused("none, j " + k, Edges29To35::powers, INDEX, x -> x.copy(0, 0, 1, k, 0));
        }
    }

    @Says("BAD;")
    static void promise35NoSuchSheetIsBad() {
        for (int number : NO_NUMBERS) {
            Edges.bad("from " + number, Edges29To35::powers, x -> x.copy(number, 0, 0, 0, 1));
            Edges.bad("to " + number, Edges29To35::powers, x -> x.copy(0, 0, number, 0, 1));
        }
    }

    @Says(value = "NULL (either); CAST: of unlike LANES;", terms = "(NULL, CAST, INDEX, SIZE in this order).")
    static void promise35BadNullCastIndexInThisOrder() {
        Edges.bad("BAD ahead of NULL", Edges29To35::powers, x -> x.copy(3, 0, 4, 0, 1));
        Edges.bad("BAD ahead of NULL", Edges29To35::powers, x -> x.copy(4, 0, 3, 0, 1));
        Edges.refused("NULL, from", Edges29To35::powers, NULL, x -> x.copy(3, 0, 0, 0, 1));
        Edges.refused("NULL, to", Edges29To35::powers, NULL, x -> x.copy(0, 0, 3, 0, 1));
        Edges.refused("NULL, both", Edges29To35::powers, NULL, x -> x.copy(3, 0, 3, 0, 1));
        Edges.refused("NULL ahead of INDEX", Edges29To35::powers, NULL, x -> x.copy(0, 9, 3, -1, 99));
        Edges.refused("NULL ahead of INDEX", Edges29To35::powers, NULL, x -> x.copy(3, -1, 0, 9, -1));
        Edges.refused("CAST", Edges29To35::powers, CAST, x -> x.copy(0, 0, 2, 0, 1));
        Edges.refused("CAST, of no items", Edges29To35::powers, CAST, x -> x.copy(2, 0, 0, 0, 0));
        Edges.refused("CAST ahead of INDEX", Edges29To35::powers, CAST, x -> x.copy(2, 9, 0, -1, 99));
        Edges.refused("CAST ahead of INDEX", Edges29To35::powers, CAST, x -> x.copy(0, 0, 2, 0, -1));
    }
}
