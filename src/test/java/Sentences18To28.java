/** Sentences of promises 18 to 28, and of the terms that they use: ordinary cases. */
final class Sentences18To28 {
    private static final int NONE = NewsCow.NONE;
    private static final int[] DAYS = {0, 1, 2, 3};

    private Sentences18To28() {
    }

    private static void due(String call, long got, long want) {
        Edges.due(call, got, want);
    }

    /** A herd of which it may be some, on a day from 1 on; the first taster is plain. */
    private static NewsCow left(String text, int set, int day) {
        NewsCow x = Check.of(text);
        for (int k = 0; k < day; k++) {
            x.answer(0, set, 1);
        }
        return x;
    }

    // ---- 18 tells

    @Says(value = "TELLS (a set).", terms = {"TELLS: of which COWS that it MAY BE a TASTER would NOTICE it in a MIX (a set).",
        "2 foretold (a MIX of COWS that there are, 1 at least: else BAD)."})
    static void promise18OfThoseThatItMayBeEachByItself() {
        for (int day : DAYS) {
            for (int taster = 0; taster < 4; taster++) {
                NewsCow x = left("31422;p1,d2,o2,s3", 27, day);
                int mayBe = day == 0 ? 31 : 27;
                for (int mix = 1; mix < 32; mix++) {
                    int want = 0;
                    for (int c = 0; c < 5; c++) {
                        want |= x.notices(taster, mix, c) << c & mayBe;
                    }
                    due("day " + day + ", tells(" + taster + ", " + mix + ")", x.tells(taster, mix), want);
                }
                due("no mix", x.tells(taster, 0), NewsCow.BAD);
                due("no such cow", x.tells(taster, 32), NewsCow.BAD);
            }
        }
    }

    // ---- 19 fewest

    @Says(value = "FEWEST; NONE.", terms = {
        "FEWEST for a TASTER: by how many MIXES, one behind the other, each chosen by answers before, one knows which it is, whatever it is",
        "(0: one at most MAY BE);"})
    static void promise19EachChosenByAnswersBefore() {
        // two of eight: four rows ahead could hold but one cow in none, four in one, two in two of them
        due("fanciful by 2", Check.of("11111111;f2").fewest(0), 4);
        // a and b together are noticed, c and d never with another: 3 first, then one of two
        due("dull by 2", Check.of("1139;d2").fewest(0), 2);
        // by chance one is enough: but whatever it is, two are
        due("three", Check.of("111;p1").fewest(0), 2);
        due("seven, one by one", Check.of("1111111;f1").fewest(0), 6);
        due("one of seven", left("1111111;p1", 64, 1).fewest(0), 0);
    }

    @Says(terms = "FORETOLD from now (nothing is changed; DAY stays as it is, whatever is drunk).")
    static void promise19TheDayStaysWhateverIsDrunk() {
        // were day 2 followed by day 3, he would sleep behind the first mix
        NewsCow x = left("1111;p1,s9", 15, 2);
        due("fewest on day 2", x.fewest(1), 2);
        due("next on day 2", x.next(1), 3);
        due("two at once on day 2", x.once(1, -1), 2);
        due("day 2", x.count(2), 2);
        // were day 0 followed by day 1, he would wake
        x = Check.of("1111;p1,s9");
        due("fewest on day 0", x.fewest(1), NONE);
        due("halves on day 0", x.halves(1, 1), 4);
        due("day 0", x.count(2), 0);
    }

    @Says(terms = "none: some can not be told apart by him.")
    static void promise19SomeCanNotBeToldApart() {
        for (int cows = 1; cows <= 8; cows++) {
            NewsCow x = Check.of("98765432".substring(0, cows) + ";s9,p1");
            due(cows + " cows, asleep", x.fewest(0), cows == 1 ? 0 : NONE);
            due(cows + " cows, plain", x.fewest(1), cows == 1 ? 0 : cows == 2 ? 1 : cows <= 4 ? 2 : 3);
        }
    }

    // ---- 20 next

    @Says(value = "NEXT; NONE.", terms = "NEXT: the first MIX (least set) to drink for that; none (0 are needed, too).")
    static void promise20ByEachNextOneKnowsInTheFewest() {
        String[] texts = {"11111111;p1", "12345678;d3", "11111111;f2", "31415926;o3", "9111;d2"};
        for (String text : texts) {
            for (int bearer = 0; bearer < Check.of(text).count(0); bearer++) {
                NewsCow x = Check.of(text);
                x.bear(bearer);
                int fewest = x.fewest(0);
                int drunk = 0;
                while (drunk < fewest && x.next(0) != NONE) {
                    x.drink(0, x.next(0));
                    drunk++;
                }
                due(text + ": she is known", x.count(3), 1 << bearer);
                due(text + ": no mix is needed", x.next(0), NONE);
            }
        }
        due("asleep", Check.of("11;s1").next(0), NONE);
    }

    @Says(terms = "NEXT: the first MIX (least set) to drink for that;")
    static void promise20NoLesserSetWouldDo() {
        // of five, two mixes more tell four apart: by 1 four are left
        due("five", Check.of("11111;p1").next(0), 1);
        // of six by 1 and 2 five are left, which is one too many
        due("six", Check.of("111111;p1").next(0), 3);
        due("seven", Check.of("1111111;p1").next(0), 7);
        // a mix with 9 tells no more than she alone: 6 is the first that leaves two and two
        due("strong", Check.of("9111;d2").next(0), 6);
        due("cows 2, 3, 4 of eight", left("11111111;p1", 28, 1).next(0), 4);
    }

    // ---- 21 once

    @Says(value = "AT ONCE: how many (k -1), the k-th MIX (NONE: not so many); NONE.", terms = {
        "AT ONCE for a TASTER: the fewest MIXES (0 to 2), chosen ahead, by whose answers one knows,",
        "how many; the k-th MIX; none: two are not enough."})
    static void promise21ChosenAhead() {
        // 3 first, then one of two: each is another, so that two are not enough ahead
        NewsCow x = Check.of("1139;d2,p1");
        due("one behind the other", x.fewest(0), 2);
        due("at once", x.once(0, -1), NONE);
        due("no mix", x.once(0, 0), NONE);
        due("plain", x.once(1, -1), 2);
        due("the first", x.once(1, 0), 3);
        due("the second", x.once(1, 1), 5);
        due("no third", x.once(1, 2), NONE);
        x.answer(1, 9, 1);
        due("of two", x.once(0, -1), 1);
        due("the one", x.once(0, 0), 1);
        due("no second", x.once(0, 1), NONE);
        x.answer(1, 8, 1);
        due("of one", x.once(0, -1), 0);
        due("no first", x.once(0, 0), NONE);
    }

    @Says(terms = "of like ones the first (the lesser set first, rising):")
    static void promise21TheFirstOfLikeOnes() {
        String[] texts = {"111;p1", "1111;p1", "1111;f2", "1243;d3", "1111;o3", "132;d2", "1111;d2", "111;o1", "111;s9"};
        for (String text : texts) {
            firstOfLikeOnes(text + " on day 0", Check.of(text));
            firstOfLikeOnes(text + " on day 1", onDayOne(text));
        }
        // on an odd day a poet notices it of all but one in a mix of one
        due("the lesser", onDayOne("111;o9").once(0, 0), 1);
        due("the greater", onDayOne("111;o9").once(0, 1), 2);
    }

    /** A plain taster more, by whose answer nothing is told. */
    private static NewsCow onDayOne(String text) {
        NewsCow x = Check.of(text);
        x.answer(x.taster(0, 1), x.count(3), 1);
        return x;
    }

    private static void firstOfLikeOnes(String name, NewsCow x) {
        int[] first = firstPair(x, x.count(0));
        due(name + ", how many", x.once(0, -1), first == null ? NONE : 2);
        due(name + ", the lesser", x.once(0, 0), first == null ? NONE : first[0]);
        due(name + ", the greater", x.once(0, 1), first == null ? NONE : first[1]);
    }

    /** Of all pairs of mixes the first by which no two cows answer alike. */
    private static int[] firstPair(NewsCow x, int cows) {
        int[] told = new int[1 << cows];
        for (int mix = 1; mix < told.length; mix++) {
            told[mix] = x.tells(0, mix);
        }
        for (int one = 1; one < told.length; one++) {
            for (int other = one + 1; other < told.length; other++) {
                int seen = 0;
                for (int c = 0; c < cows; c++) {
                    seen |= 1 << 2 * (told[one] >> c & 1) + (told[other] >> c & 1);
                }
                if (Integer.bitCount(seen) == cows) {
                    return new int[] {one, other};
                }
            }
        }
        return null;
    }

    // ---- 22 halves

    @Says(value = "HALVES: the MIX (what 0), how many (1); NONE.", terms = {
        "HALVES for a TASTER: the MIX by which the greater part of those that it MAY BE is least, of like ones the least set; how many that part has;",
        "none: it MAY BE one at most."})
    static void promise22TheGreaterPartIsLeast() {
        String[] texts = {"11111111;p1", "12345678;d3", "12345678;d9", "11111111;f2", "31415926;o3", "1;p1", "12;s1"};
        for (String text : texts) {
            NewsCow x = Check.of(text);
            int cows = x.count(0);
            int best = NONE;
            int least = NONE;
            for (int mix = (1 << cows) - 1; mix >= 1 && cows > 1; mix--) {
                int yes = Integer.bitCount(x.tells(0, mix));
                int part = yes >= cows - yes ? yes : cows - yes;
                if (best == NONE || part <= least) {
                    best = mix;
                    least = part;
                }
            }
            due(text + ", the mix", x.halves(0, 0), best);
            due(text + ", how many", x.halves(0, 1), least);
        }
        due("of three left of eight", left("11111111;p1", 112, 1).halves(0, 0), 16);
        due("how many", left("11111111;p1", 112, 1).halves(0, 1), 2);
    }

    // ---- 23 likely, 24 noticed

    @Says(value = "LIKELY: above (what 0), below (1).",
        terms = "LIKELY: how likely it is a cow, of those that it MAY BE, each as likely as it gives MILK: a fraction (0: it may not be).")
    static void promise23AsLikelyAsItGivesMilk() {
        NewsCow x = left("24681357;p1", 29, 1);
        int[] above = {2, 0, 6, 8, 1, 0, 0, 0};
        for (int c = 0; c < 8; c++) {
            int whole = above[c] == 0 ? 1 : 17;
            Edges.fraction("cow " + c, x.likely(c, 0), x.likely(c, 1), above[c], whole);
        }
        x.forget();
        Edges.fraction("6 of 36", x.likely(2, 0), x.likely(2, 1), 1, 6);
        Edges.fraction("8 of 36", x.likely(3, 0), x.likely(3, 1), 2, 9);
        Edges.fraction("5 of 36", x.likely(6, 0), x.likely(6, 1), 5, 36);
    }

    @Says(value = "NOTICED: above (what 0), below (1).",
        terms = "NOTICED: how likely a TASTER NOTICES it in a MIX: a fraction (0 by 1: it MAY BE none).")
    static void promise24AsLikelyAsThoseOfWhomHeNotices() {
        NewsCow x = left("24681357;p1,d2,f2,s9", 29, 1);
        Edges.fraction("plain: 8 of 17", x.noticed(0, 5, 0), x.noticed(0, 5, 1), 8, 17);
        Edges.fraction("plain, others too", x.noticed(0, 231, 0), x.noticed(0, 231, 1), 8, 17);
        // 2, 6 and 8 are 16: 16 is as much
        Edges.fraction("dull: 8 of 17", x.noticed(1, 13, 0), x.noticed(1, 13, 1), 8, 17);
        Edges.fraction("fanciful", x.noticed(2, 7, 0), x.noticed(2, 7, 1), 1, 1);
        // 1 by 9 of 17 is less, 2 by 9 is more
        Edges.fraction("sleepy on day 1", x.noticed(3, 29, 0), x.noticed(3, 29, 1), 16, 17);
        x.answer(0, 29, 0);
        Edges.fraction("it may be none", x.noticed(2, 7, 0), x.noticed(2, 7, 1), 0, 1);
    }

    // ---- 25 single

    @Says(value = {"SINGLE: the k-th (NONE: not so many);", "above (k -1), below (k -2) of the mean"}, terms = {
        "SINGLE: in which order COWS that it MAY BE are best tried one by one (the last one of them needs no trial), so that the mean number of trials is least,",
        "of like ones the first (by numbers, rising): the k-th; the mean: a fraction."})
    static void promise25TheMeanNumberOfTrialsIsLeast() {
        // 9, 7, 6, 4 by 1, 2, 3, 4 and 2, 3 by 5: 9 + 14 + 18 + 16 + 25 of 31
        order(Check.of("296374"), 82, 31, 1, 4, 2, 5, 0, 3);
        // 5 by 1, 5 by 2, 1 and 1 by 3: 21 of 12
        order(Check.of("1551"), 7, 4, 1, 2, 0, 3);
        // of cows 0, 2, 4: 9 by 1, 3 and 2 by 2: 19 of 14
        order(left("39289;p1", 21, 1), 19, 14, 4, 0, 2);
        order(left("39289;p1", 3, 1), 1, 1, 0, 1);
        order(left("39289;p1", 8, 1), 0, 1, 3);
    }

    private static void order(NewsCow x, int above, int below, int... cows) {
        for (int k = 0; k < cows.length; k++) {
            due("single(" + k + ")", x.single(k), cows[k]);
        }
        due("no more", x.single(cows.length), NONE);
        Edges.fraction("the mean", x.single(-1), x.single(-2), above, below);
    }

    // ---- 26 share

    @Says(value = "SHARE: above (what 0), below (1).",
        terms = "SHARE of a cow in a MIX: MILK by that of all in it: a fraction (0: she is not in it).")
    static void promise26MilkByThatOfAllInIt() {
        NewsCow x = left("24681357;p1", 1, 1);
        Edges.fraction("4 of 10", x.share(1, 0b01010010, 0), x.share(1, 0b01010010, 1), 2, 5);
        Edges.fraction("1 of 10", x.share(4, 0b01010010, 0), x.share(4, 0b01010010, 1), 1, 10);
        Edges.fraction("5 of 10", x.share(6, 0b01010010, 0), x.share(6, 0b01010010, 1), 1, 2);
        Edges.fraction("not in it", x.share(0, 0b01010010, 0), x.share(0, 0b01010010, 1), 0, 1);
        Edges.fraction("7 of 36", x.share(7, 255, 0), x.share(7, 255, 1), 7, 36);
    }

    // ---- 27 image, 28 restore

    @Says("All but SHEETS, THE TAPE is kept as an IMAGE: 1.")
    static void promise27AllIsKeptButSheetsAndTheTape() {
        NewsCow x = Edges.rich();
        due("image()", x.image(), 1);
        x.sheet(0, 3, 9);
        x.type(' ');
        Check.herd(x, "");
        due("another herd", x.count(0), 2);
        due("restore()", x.restore(), 1);
        due("three cows", x.count(0), 3);
        due("the sheet stays new", x.drop(0), 9);
        due("the tape stays empty", x.type('1'), 1);
    }

    @Says("All is as it was then: 1.")
    static void promise28AllIsAsItWasThen() {
        NewsCow x = Edges.rich();
        NewsCow same = Edges.rich();
        x.image();
        changeAll(x);
        due("restore()", x.restore(), 1);
        for (int c = 0; c < 8; c++) {
            due("milk of " + c, x.of(c), same.of(c));
        }
        for (int t = 0; t < 4; t++) {
            due("kind of " + t, x.at(t, 0), same.at(t, 0));
            due("how fine " + t, x.at(t, 1), same.at(t, 1));
        }
        for (int k = 0; k < 10; k++) {
            for (int what = 0; what < 8; what++) {
                due("count(" + what + ") behind " + k, x.count(what), same.count(what));
            }
            due("the draw behind " + k, x.seed(0), same.seed(0));
            due("undo() behind " + k, x.undo(), same.undo());
        }
    }

    private static void changeAll(NewsCow x) {
        x.milk(0, 9);
        x.milk(2, 7);
        x.seed(4);
        x.drift(13);
        x.forget();
        x.bear(1);
        x.undo();
        x.herd();
        x.bear(1);
        x.cow(5);
        x.taster(1, 1);
        x.bear(2);
    }
}
