/** Sentences of promises 1 to 10, and of the terms that they use: ordinary cases. */
final class Sentences01To10 {
    private static final int NONE = NewsCow.NONE;

    private Sentences01To10() {
    }

    private static void due(String call, long got, long want) {
        Edges.due(call, got, want);
    }

    /** A herd on a day that is reached by answers which tell nothing; its first taster is plain. */
    private static NewsCow onDay(String text, int day) {
        NewsCow x = Check.of(text);
        for (int k = 0; k < day; k++) {
            x.answer(0, x.count(3), 1);
        }
        return x;
    }

    /** What he notices by every mix, from 1 on. */
    private static void noticing(String name, NewsCow x, int taster, int... wants) {
        for (int mix = 1; mix <= wants.length; mix++) {
            due(name + ", mix " + mix, Check.noticing(x, taster, mix), wants[mix - 1]);
        }
    }

    // ---- 1 a new object

    @Says(terms = "It is DAY 0 at first.")
    static void promise01TheDayIsZeroTillSomethingIsDrunk() {
        NewsCow x = new NewsCow();
        due("no herd", x.count(2), 0);
        x.cow(5);
        x.taster(0, 1);
        x.bear(0);
        due("a herd", x.count(2), 0);
        x.drink(0, 1);
        due("behind a drink", x.count(2), 1);
    }

    @Says(terms = "3 sheets 0 .. 3: nothing (at first), or a row of a LANE: 0 bytes, 1 shorts, 2 ints, 3 longs, of 0 to 24 items.")
    static void promise01FourSheetsOfFourLanes() {
        NewsCow x = new NewsCow();
        for (int sheet = 0; sheet < 4; sheet++) {
            due("nothing", x.drop(sheet), NewsCow.NULL);
            for (int lane = 0; lane < 4; lane++) {
                due("none", x.sheet(sheet, lane, 0), 0);
                due("most", x.sheet(sheet, lane, 24), 24);
                due("more", x.sheet(sheet, lane, 25), NewsCow.BAD);
            }
            due("no lane 4", x.sheet(sheet, 4, 0), NewsCow.BAD);
        }
        due("no sheet 4", x.sheet(4, 0, 0), NewsCow.BAD);
    }

    // ---- 2 cow

    @Says(value = "A cow: her number", terms = "COWS 0 .. 7, as they come, give MILK 1 .. 9.")
    static void promise02NumbersAsTheyCome() {
        int[] milks = {3, 1, 4, 1, 5, 9, 2, 6};
        NewsCow x = new NewsCow();
        for (int c = 0; c < milks.length; c++) {
            due("cow " + c, x.cow(milks[c]), c);
        }
        for (int c = 0; c < milks.length; c++) {
            due("milk of " + c, x.of(c), milks[c]);
        }
        for (int milk = 1; milk <= 9; milk++) {
            x = new NewsCow();
            x.cow(milk);
            due("milk " + milk, x.of(0), milk);
        }
    }

    @Says(terms = "FULL -3,")
    static void promise02FullByItsNumber() {
        due("a ninth", Check.of("11111111").cow(1), -3);
    }

    @Says(terms = "It MAY BE a set of COWS (all that there are, at first).")
    static void promise02ItMayBeAllThatThereAreAtFirst() {
        NewsCow x = new NewsCow();
        int[] wants = {1, 3, 7, 15, 31, 63, 127, 255};
        due("none", x.count(3), 0);
        for (int want : wants) {
            x.cow(5);
            due("all", x.count(3), want);
        }
    }

    // ---- 3 taster

    @Says(value = "A TASTER: the number.", terms = "TASTERS 0 .. 3, as they come, are of a KIND, FINE by 1 .. 9.")
    static void promise03NumbersAsTheyCome() {
        int[] kinds = {2, 0, 4, 2};
        int[] fines = {7, 1, 9, 3};
        NewsCow x = new NewsCow();
        for (int t = 0; t < kinds.length; t++) {
            due("taster " + t, x.taster(kinds[t], fines[t]), t);
        }
        for (int t = 0; t < kinds.length; t++) {
            due("kind of " + t, x.at(t, 0), kinds[t]);
            due("how fine " + t, x.at(t, 1), fines[t]);
        }
        for (int fine = 1; fine <= 9; fine++) {
            x = new NewsCow();
            x.taster(fine % 5, fine);
            due("kind", x.at(0, 0), fine % 5);
            due("fine by " + fine, x.at(0, 1), fine);
        }
    }

    // ---- 4 milk, 5 at, 6 of

    @Says("MILK of a cow becomes v: what it was.")
    static void promise04WhatItWasAndWhatItIs() {
        NewsCow x = Check.of("111");
        int was = 1;
        for (int v = 9; v >= 1; v--) {
            due("milk(1, " + v + ")", x.milk(1, v), was);
            due("of(1)", x.of(1), v);
            was = v;
        }
        due("of(0)", x.of(0), 1);
        due("of(2)", x.of(2), 1);
    }

    @Says(terms = "BAD -1 (a number is not as told, there is no such thing),")
    static void promise04BadByItsNumber() {
        due("a number is not as told", Check.of("111").milk(1, 0), -1);
        due("there is no such thing", Check.of("111").milk(3, 5), -1);
    }

    /** The milk is looked at when a mix is drunk, not when the herd came. */
    @Says("MILK of a cow becomes v: what it was.")
    static void promise04AllThatComesOfItIsByTheNewMilk() {
        NewsCow x = Check.of("14;d2");
        due("2 of 5", x.notices(0, 3, 0), 0);
        x.milk(0, 4);
        due("8 of 8", x.notices(0, 3, 0), 1);
        due("milk of all", x.count(5), 8);
        due("likely", x.likely(0, 1), 2);
        due("share", x.share(0, 3, 1), 2);
    }

    @Says("Of a TASTER: 0 KIND, 1 how FINE.")
    static void promise05KindAndHowFine() {
        NewsCow x = Check.of("1;d7,o2");
        due("at(0, 0)", x.at(0, 0), 1);
        due("at(0, 1)", x.at(0, 1), 7);
        due("at(1, 0)", x.at(1, 0), 4);
        due("at(1, 1)", x.at(1, 1), 2);
    }

    @Says("MILK of a cow.")
    static void promise06MilkOfEach() {
        NewsCow x = Check.of("27182845");
        int[] wants = {2, 7, 1, 8, 2, 8, 4, 5};
        for (int c = 0; c < wants.length; c++) {
            due("of(" + c + ")", x.of(c), wants[c]);
        }
    }

    // ---- 7 notices

    @Says("Whether a TASTER would NOTICE it in a MIX, if a cow has it (1, 0).")
    static void promise07IfACowHasItWhoeverHasIt() {
        NewsCow x = Check.of("12!3;p1,f1");
        due("she", x.notices(0, 4, 2), 1);
        due("the bearer, who is not in it", x.notices(0, 4, 1), 0);
        due("by another taster", x.notices(1, 5, 1), 1);
        due("nothing is drunk", x.count(2), 0);
    }

    @Says(terms = "A MIX is a set of COWS, 1 at least.")
    static void promise07EverySetOfCowsIsAMix() {
        NewsCow x = Check.of("11111111;p1");
        due("none", x.notices(0, 0, 0), NewsCow.BAD);
        for (int mix = 1; mix < 256; mix++) {
            due("mix " + mix, x.notices(0, mix, mix % 8), mix >> mix % 8 & 1);
        }
    }

    @Says(terms = "Whether a TASTER NOTICES the news in a MIX, if a cow c has it, by KIND: 0 PLAIN: if c is in the MIX.")
    static void promise07Plain() {
        noticing("fine by 1", Check.of("194;p1"), 0, 1, 2, 3, 4, 5, 6, 7);
        noticing("fine by 9", Check.of("194;p9"), 0, 1, 2, 3, 4, 5, 6, 7);
        noticing("on day 1", onDay("194;p1", 1), 0, 1, 2, 3, 4, 5, 6, 7);
        noticing("on day 3", onDay("194;p1", 3), 0, 1, 2, 3, 4, 5, 6, 7);
    }

    @Says(terms = "Below it 1 DULL: as PLAIN, and MILK of c times FINE is as much as MILK of all in the MIX, or more.")
    static void promise07Dull() {
        // 1 and 3 are 4, 1 and 4 are 5, 3 and 4 are 7, all are 8
        noticing("fine by 1", Check.of("134;d1"), 0, 1, 2, 0, 4, 0, 0, 0);
        noticing("fine by 2", Check.of("134;d2"), 0, 1, 2, 2, 4, 4, 4, 4);
        noticing("fine by 3", Check.of("134;d3"), 0, 1, 2, 2, 4, 4, 6, 6);
        noticing("fine by 4", Check.of("134;d4"), 0, 1, 2, 3, 4, 4, 6, 6);
        noticing("fine by 5", Check.of("134;d5"), 0, 1, 2, 3, 4, 5, 6, 6);
        noticing("fine by 8", Check.of("134;d8"), 0, 1, 2, 3, 4, 5, 6, 7);
        noticing("on day 3", onDay("134;p1,d2", 3), 1, 1, 2, 2, 4, 4, 4, 4);
    }

    @Says(terms = "2 FANCIFUL (below PLAIN): as PLAIN; or if there are more COWS in the MIX than it is FINE.")
    static void promise07Fanciful() {
        noticing("fine by 1", Check.of("194;f1"), 0, 1, 2, 7, 4, 7, 7, 7);
        noticing("fine by 2", Check.of("194;f2"), 0, 1, 2, 3, 4, 5, 6, 7);
        noticing("fine by 2, four cows", Check.of("1111;f2"), 0, 1, 2, 3, 4, 5, 6, 15, 8, 9, 10, 15, 12, 15, 15, 15);
        noticing("on day 1", onDay("194;p1,f1", 1), 1, 1, 2, 7, 4, 7, 7, 7);
    }

    @Says(terms = "3 SLEEPY (below DULL): as DULL, but never on DAYS that are a multiple of 3 (0, too).")
    static void promise07Sleepy() {
        for (int day = 0; day < 14; day++) {
            NewsCow x = onDay("134;p1,s3", day);
            if (day == 0 || day == 3 || day == 6 || day == 9 || day == 12) {
                noticing("asleep on day " + day, x, 1, 0, 0, 0, 0, 0, 0, 0);
            } else {
                noticing("awake on day " + day, x, 1, 1, 2, 2, 4, 4, 6, 6);
            }
        }
    }

    @Says(terms = "4 POET (below FANCIFUL): as FANCIFUL on DAYS of an even number, else just the other way round.")
    static void promise07Poet() {
        for (int day = 0; day < 8; day += 2) {
            noticing("even day " + day, onDay("194;p1,o1", day), 1, 1, 2, 7, 4, 7, 7, 7);
            noticing("odd day " + (day + 1), onDay("194;p1,o1", day + 1), 1, 6, 5, 0, 3, 0, 0, 0);
            noticing("fine by 3, odd day " + (day + 1), onDay("194;p1,o3", day + 1), 1, 6, 5, 4, 3, 2, 1, 0);
        }
    }

    // ---- 8 type, 9 herd

    @Says("One letter more behind THE TAPE: how many it has.")
    static void promise08LettersStandAsTheyCome() {
        NewsCow x = new NewsCow();
        due("type('3')", x.type('3'), 1);
        due("type('5')", x.type('5'), 2);
        due("type('!')", x.type('!'), 3);
        due("herd()", x.herd(), 2);
        due("of(0)", x.of(0), 3);
        due("of(1)", x.of(1), 5);
        due("the bearer", x.count(4), 1);
        due("anew", x.type('4'), 1);
    }

    @Says(value = "BAD: not 32 .. 126;")
    static void promise08EveryLetterFrom32To126() {
        NewsCow x = new NewsCow();
        for (int letter = 0; letter < 160; letter++) {
            boolean isLetter = letter >= 32 && letter <= 126;
            due("type(" + letter + ")", x.type(letter), isLetter ? 1 : NewsCow.BAD);
            x.herd();
        }
    }

    @Says(value = {"THE TAPE, which is empty then, is a HERD: how many COWS."}, terms = {
        "A HERD is a TEXT: 1 to 8 digits 1 .. 9 (MILK), perhaps ! behind one of them (THE BEARER);",
        "in place of all; it MAY BE all, DAY 0 (THE DRAW stays)."})
    static void promise09DigitsAreCows() {
        String digits = "93715284";
        for (int cows = 1; cows <= 8; cows++) {
            for (int bearer = -1; bearer < cows; bearer++) {
                NewsCow x = onDay("12!3;p1", 2);
                x.answer(0, 1, 0);
                x.seed(70);
                String text = digits.substring(0, bearer + 1) + (bearer < 0 ? "" : "!") + digits.substring(bearer + 1, cows);
                due(text, Check.herd(x, text), cows);
                for (int c = 0; c < cows; c++) {
                    due(text + ", milk of " + c, x.of(c), digits.charAt(c) - '0');
                }
                due(text + ", no cow more", x.of(cows), NewsCow.BAD);
                due(text + ", the bearer", x.count(4), bearer < 0 ? NONE : bearer);
                due(text + ", no taster", x.count(1), 0);
                due(text + ", day 0", x.count(2), 0);
                due(text + ", it may be all", x.count(3), (1 << cows) - 1);
                due(text + ", the draw stays", x.seed(1), 70);
                due(text + ", the tape is empty", x.type('1'), 1);
            }
        }
    }

    @Says(terms = {"then perhaps ; and 1 to 4 TASTERS with , between:",
        "p d f s o (PLAIN, DULL, FANCIFUL, SLEEPY, POET), a digit 1 .. 9 (FINE):"})
    static void promise09TastersBehindASemicolon() {
        String kinds = "pdfso";
        for (int tasters = 1; tasters <= 4; tasters++) {
            for (int first = 0; first < 5; first++) {
                StringBuilder text = new StringBuilder("5");
                for (int t = 0; t < tasters; t++) {
                    text.append(t == 0 ? ';' : ',').append(kinds.charAt((first + t) % 5)).append(1 + (first * 2 + t * 3) % 9);
                }
                NewsCow x = Check.of("12!3;o9,o9,o9,o9");
                due(text.toString(), Check.herd(x, text.toString()), 1);
                due(text + ", how many", x.count(1), tasters);
                for (int t = 0; t < tasters; t++) {
                    due(text + ", kind of " + t, x.at(t, 0), (first + t) % 5);
                    due(text + ", how fine " + t, x.at(t, 1), 1 + (first * 2 + t * 3) % 9);
                }
            }
        }
    }

    @Says(value = "A FAULT (all else stays).", terms = {
        "FAULTS: -20 less the place of the first letter (behind blanks) that can't stand there (the end: how many there are);"})
    static void promise09EveryPlaceOfAFault() {
        // ~ can stand nowhere, and what stands ahead of it can: its place is the fault's
        String text = "12!345678;p1,d2,f3,s4";
        for (int place = 0; place <= text.length(); place++) {
            NewsCow x = Check.of("77;o7");
            due("~ at " + place, Check.herd(x, text.substring(0, place) + "~" + text.substring(place)), -20 - place);
            due("all else stays", x.of(1), 7);
            due("the tape is empty", x.type('1'), 1);
        }
    }

    @Says(terms = "(the end: how many there are);")
    static void promise09EveryEndThatComesTooEarly() {
        String text = "12!345678;p1,d2,f3,s4";
        for (int length = 0; length <= text.length(); length++) {
            char last = length == 0 ? '0' : text.charAt(length - 1);
            boolean isWhole = last >= '1' && last <= '9' || last == '!';
            int cows = Math.min(8, length < 3 ? length : length - 1);
            due("the first " + length, Check.herd(new NewsCow(), text.substring(0, length)), isWhole ? cows : -20 - length);
        }
    }

    @Says(terms = "blanks count for nothing.")
    static void promise09ABlankMayStandAnywhere() {
        String text = "12!3;p4,o5";
        for (int place = 0; place <= text.length(); place++) {
            NewsCow x = new NewsCow();
            due("a blank at " + place, Check.herd(x, text.substring(0, place) + " " + text.substring(place)), 3);
            Edges.counts(x, 3, 2, 0, 7, 1, 6, 6, 0);
            due("how fine", x.at(1, 1), 5);
        }
    }

    // ---- 10 count

    @Says("0 COWS, 1 TASTERS, 2 the DAY, 3 what it MAY BE (a set), 4 THE BEARER (NONE), 5 MILK of all, "
        + "6 MILK of those that it MAY BE, 7 what may be UNDONE.")
    static void promise10EachOfTheEight() {
        NewsCow x = Check.of("1234;p1,d9");
        Edges.counts(x, 4, 2, 0, 15, NONE, 10, 10, 0);
        x.bear(2);
        Edges.counts(x, 4, 2, 0, 15, 2, 10, 10, 1);
        x.drink(0, 6);
        Edges.counts(x, 4, 2, 1, 6, 2, 10, 5, 2);
        x.cow(5);
        Edges.counts(x, 5, 2, 1, 31, 2, 15, 15, 0);
        x.taster(0, 1);
        x.milk(4, 1);
        Edges.counts(x, 5, 3, 1, 31, 2, 11, 11, 0);
    }

    @Says(terms = "Sets are bits.")
    static void promise10ASetHasABitForEachCow() {
        NewsCow x = Check.of("11111111;p1");
        for (int c = 0; c < 8; c++) {
            due("cow " + c, x.answer(0, 1 << c, 1), 1 << c);
            due("count(3)", x.count(3), 1 << c);
            x.forget();
        }
        due("cows 0, 2, 5", x.answer(0, 1 + 4 + 32, 1), 37);
    }
}
