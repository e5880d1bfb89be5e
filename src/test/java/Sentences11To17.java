import java.util.function.Supplier;

/** Sentences of promises 11 to 17, and of the terms that they use: ordinary cases. */
final class Sentences11To17 {
    private static final int NONE = NewsCow.NONE;

    private Sentences11To17() {
    }

    private static void due(String call, long got, long want) {
        Edges.due(call, got, want);
    }

    // ---- 11 answer

    @Says(value = "ANSWERED (1, 0): what it MAY BE then (a set).",
        terms = "ANSWERED: a TASTER drinks a MIX, and NOTICES it, or not (as told): it MAY BE only those of whom that would be so; it is the next DAY.")
    static void promise11OnlyThoseOfWhomThatWouldBeSo() {
        NewsCow x = Check.of("12345678;p1,d2,f2,o1");
        due("plain, noticed", x.answer(0, 127, 1), 127);
        due("plain, not noticed", x.answer(0, 1, 0), 126);
        // 2 and 7 are 9: 14 is as much, 4 is not
        due("dull, not noticed", x.answer(1, 66, 0), 62);
        due("day 3", x.count(2), 3);
        // the poet is fanciful the other way round: he notices it of all that are not in a mix of one
        due("poet on day 3, noticed", x.answer(3, 2, 1), 60);
        due("poet on day 4, noticed", x.answer(3, 3, 1), 60);
        due("fanciful of three, noticed", x.answer(2, 7, 1), 60);
        due("fanciful of two, noticed", x.answer(2, 12, 1), 12);
        due("day 7", x.count(2), 7);
        due("fanciful of three, not noticed", x.answer(2, 7, 0), 0);
        due("day 8", x.count(2), 8);
    }

    /** Calls that are refused, each by another answer. */
    private static final Look.Call[] REFUSED = {
        x -> x.cow(0), x -> x.taster(5, 1), x -> x.milk(0, 10), x -> x.at(9, 0), x -> x.of(9), x -> x.notices(0, 0, 0),
        x -> x.type(127), x -> x.count(8), x -> x.answer(0, 8, 1), x -> x.drink(9, 1), x -> x.bear(0), x -> x.bear(9),
        x -> x.drift(0), x -> x.seed(-1), x -> x.tells(0, 0), x -> x.fewest(9), x -> x.next(9), x -> x.once(0, -2),
        x -> x.halves(0, 2), x -> x.likely(9, 0), x -> x.noticed(0, 8, 0), x -> x.single(-3), x -> x.share(0, 0, 0),
        x -> x.fits(0, 2, 0, 0, 1, 0), x -> x.fits(0, 0, 1, 0, 1, 0), x -> x.fits(0, 0, 0, 3, 1, 0),
        x -> x.fits(0, 1, 2, 1, 1, 0), x -> x.slips(0, 0, 11, 0, 0, 0, 1, 0), x -> x.film(0, 8, 1, 2, 0),
        x -> x.film(0, 7, 1, 2, 6), x -> x.sheet(1, 2, 25), x -> x.sheet(1, 2, -1), x -> x.drop(2),
        x -> x.item(1, 2, 12, 9), x -> x.item(1, 3, 0, 9), x -> x.copy(0, 0, 1, 0, 4), x -> x.copy(1, 0, 1, 6, 7)};

    @Says(terms = "What is refused changes nothing, but as told.")
    static void promise11AllThatIsRefusedOneBehindTheOther() {
        for (int k = 0; k < REFUSED.length; k++) {
            Look.Call call = REFUSED[k];
            due("call " + k + " is refused", call.on(Edges.rich()) < 0 ? 1 : 0, 1);
        }
        Look.Call all = x -> {
            for (Look.Call call : REFUSED) {
                call.on(x);
            }
            return 0;
        };
        Edges.refused("all of them", Edges::rich, 0, all);
    }

    // ---- 12 drink

    @Says(value = "DRUNK: whether he NOTICES it (1, 0).", terms = "DRUNK: likewise, by what THE BEARER makes him NOTICE.")
    static void promise12ByWhatTheBearerMakesHimNotice() {
        NewsCow x = Check.of("12345!678;p1,d2,f2,o1");
        due("she is in it", x.drink(0, 0b01111110), 1);
        due("it may be", x.count(3), 0b01111110);
        due("day 1", x.count(2), 1);
        due("she is not in it", x.drink(0, 0b00000110), 0);
        due("it may be", x.count(3), 0b01111000);
        // 5 and 7 are 12: 10 is less, 14 is more
        due("dull", x.drink(1, 0b01010000), 0);
        due("it may be", x.count(3), 0b00111000);
        due("poet on day 3: she is in it", x.drink(3, 0b00010000), 0);
        due("it may be", x.count(3), 0b00010000);
        due("day 4", x.count(2), 4);
        x.bear(0);
        due("another bearer", x.drink(0, 1), 1);
        due("it may be none", x.count(3), 0);
    }

    @Says(terms = "Answers below 0, of several the first that a call names:")
    static void promise12TheFirstThatTheCallNames() {
        Supplier<NewsCow> made = () -> {
            NewsCow x = Edges.onDay(9999);
            x.bear(NONE);
            return x;
        };
        due("BAD, FULL and NOT", made.get().drink(0, 256), -1);
        due("FULL and NOT", made.get().drink(0, 255), -3);
        NewsCow x = made.get();
        x.undo();
        x.undo();
        x.bear(NONE);
        due("NOT", x.drink(0, 255), -2);
        x.undo();
        due("none", x.drink(0, 255), 1);
    }

    // ---- 13 forget, 14 bear

    @Says(value = "FORGOTTEN: how many it MAY BE then.", terms = {"FORGOTTEN: it MAY BE all COWS again.", "NOT -2 (as told),"})
    static void promise13ItMayBeAllCowsAgain() {
        NewsCow x = Check.of("12345!;p1");
        x.drink(0, 24);
        due("two are left", x.count(3), 24);
        due("forget()", x.forget(), 5);
        due("all", x.count(3), 31);
        Edges.counts(x, 5, 1, 1, 31, 4, 15, 15, 2);
        due("all are left", x.forget(), -2);
    }

    @Says(value = "THE BEARER is a cow, or not told (NONE): who it was (NONE).",
        terms = "One cow, THE BEARER, has the news, or it is not told which (NONE, at first).")
    static void promise14WhoItWasAndWhoItIs() {
        NewsCow x = new NewsCow();
        due("no herd", x.count(4), NONE);
        for (int c = 0; c < 8; c++) {
            x.cow(c + 1);
            due("none at first", x.count(4), NONE);
        }
        int was = NONE;
        for (int cow : new int[] {3, 0, 7, NONE, 5, 2, NONE, 1}) {
            due("bear(" + cow + ")", x.bear(cow), was);
            due("count(4)", x.count(4), cow);
            was = cow;
        }
    }

    // ---- 15 drift

    @Says(value = {"A DRIFT of n times (1 .. 40;", "what it MAY BE then (a set)."}, terms = {
        "DRIFT by a seed: THE DRAW is a number of 31 bits (1 at first); each time it becomes the lowest 31 bits of itself times 1103515245 and 12345 more:",
        "the TASTER that it is by 65536, left over by how many there are, drinks the MIX that it is by 128, left over by 2 to the number of COWS, if that is not 0, and THE BEARER is told"})
    static void promise15EachTimeTheTasterThatItIsDrinksTheMixThatItIs() {
        String[] texts = {"1!;p1", "12!;p1,f1", "123!45;d2,p1,f2", "12345!678;s9,o3,d4,p1"};
        for (String text : texts) {
            for (int n : new int[] {1, 2, 7, 40}) {
                NewsCow drifting = Check.of(text);
                NewsCow drinking = Check.of(text);
                drifting.seed(2024 + n);
                long draw = 2024 + n;
                for (int time = 0; time < n; time++) {
                    draw = (draw * 1103515245L + 12345L) % 2147483648L;
                    drinking.drink((int) (draw / 65536) % drinking.count(1), (int) (draw / 128) % (1 << drinking.count(0)));
                }
                due(text + ", drift(" + n + ")", drifting.drift(n), drinking.count(3));
                due(text + ", the day", drifting.count(2), drinking.count(2));
                due(text + ", the draw", drifting.seed(0), draw);
            }
        }
    }

    @Says(terms = "the TASTER that it is by 65536, left over by how many there are, drinks")
    static void promise15TheTasterOfManyDraws() {
        // on day 0 a sleepy one tells nothing, a plain one whether cow 0 is in the mix
        NewsCow x = Check.of("1!1;p1,s9");
        for (int seed = 0; seed < 160; seed++) {
            long draw = (seed * 99991L * 1103515245L + 12345L) % 2147483648L;
            int mix = (int) (draw / 128 % 4);
            int plain = mix == 0 ? 3 : mix % 2 == 1 ? mix : 3 - mix;
            x.seed(seed * 99991);
            due("draw " + draw, x.drift(1), draw / 65536 % 2 == 0 ? plain : 3);
            x.undo();
        }
    }

    @Says(terms = "What is divided is cut.")
    static void promise15WhatIsDividedIsCut() {
        // 59559187 by 65536 is 908 and 52499 left, so nearer to 909; 908 by 3 leaves 2; by 128 it is 465306, by 16 leaves 10
        NewsCow x = Check.of("1111!;s1,s1,p1");
        x.seed(2);
        due("the third drinks cows 1 and 3", x.drift(1), 10);
        // 1043980748 by 128 is 8156099 and 76 left, so nearer to 8156100, which would be no mix of one cow
        x = Check.of("1!;p1");
        x.seed(2147483647);
        x.drift(1);
        due("8156099 by 2 leaves 1: she is drunk", x.count(2), 1);
    }

    @Says(terms = "(nothing without TASTERS; THE DRAW goes on).")
    static void promise15NothingWithoutTastersButTheDraw() {
        NewsCow x = Check.of("11!1");
        due("it may be all", x.drift(3), 7);
        due("day 0", x.count(2), 0);
        due("the draw", x.seed(1), 662824084);
        x.taster(0, 1);
        due("with one: mix 5, she is not in it", x.drift(1), 2);
        due("day 1", x.count(2), 1);
    }

    @Says("each by itself may be UNDONE, though nothing is drunk):")
    static void promise15EachByItselfMayBeUndone() {
        NewsCow x = Check.of("11!1;p1");
        due("mixes 5, 1", x.drift(2), 2);
        due("two may be undone", x.count(7), 2);
        due("undo()", x.undo(), 1);
        due("day 1", x.count(2), 1);
        due("it may be", x.count(3), 2);
        due("undo()", x.undo(), 0);
        due("day 0", x.count(2), 0);
        due("it may be", x.count(3), 7);
        due("the draw", x.seed(1), 1);
    }

    // ---- 16 undo

    /** A herd on which each of the four kinds of doing would change something. */
    private static NewsCow beforeUndo() {
        NewsCow x = Check.of("12!34;p1,o2");
        x.answer(0, 14, 1);
        x.seed(321);
        return x;
    }

    private static void undoes(String name, Look.Call doing) {
        NewsCow x = beforeUndo();
        due(name + " holds", doing.on(x) >= NONE ? 1 : 0, 1);
        due(name + " may be undone", x.count(7), 2);
        x.seed(99);
        due(name + ", undo()", x.undo(), 1);
        Edges.counts(x, 4, 2, 1, 14, 1, 10, 9, 1);
        due(name + ", the draw", x.seed(0), 321);
    }

    @Says(value = "UNDONE: how many more may be.", terms = {
        "UNDONE: the latest ANSWERED, DRUNK, FORGOTTEN, THE BEARER told is as it had not been",
        "what it MAY BE, THE BEARER, the DAY, THE DRAW are as ahead of it, whatever was told since;"})
    static void promise16EachIsAsItHadNotBeen() {
        undoes("ANSWERED", x -> x.answer(0, 6, 1));
        undoes("ANSWERED by a poet", x -> x.answer(1, 2, 0));
        undoes("DRUNK", x -> x.drink(0, 4));
        undoes("FORGOTTEN", x -> x.forget());
        undoes("THE BEARER told", x -> x.bear(3));
        undoes("THE BEARER not told", x -> x.bear(NONE));
        undoes("a DRIFT", x -> x.drift(1));
    }

    @Says(terms = "a HERD, a new cow, TASTER leave nothing to be UNDONE.")
    static void promise16AHerdANewCowTasterLeaveNothing() {
        Look.Call[] comers = {x -> x.cow(5), x -> x.taster(2, 2), x -> Check.herd(x, "12;p1")};
        for (int k = 0; k < comers.length; k++) {
            NewsCow x = beforeUndo();
            due("one may be undone", x.count(7), 1);
            comers[k].on(x);
            due("comer " + k, x.count(7), 0);
            due("undo()", x.undo(), NONE);
            x.bear(0);
            due("one behind it may be", x.count(7), 1);
        }
    }

    @Says(value = "NONE: none is known.", terms = "NONE -4 (as told),")
    static void promise16NoneIsKnownBehindTheLast() {
        NewsCow x = beforeUndo();
        due("undo()", x.undo(), 0);
        due("undo()", x.undo(), -4);
        due("undo()", x.undo(), -4);
        due("it may be all", x.count(3), 15);
    }

    // ---- 17 seed

    @Says("THE DRAW becomes v: what it was.")
    static void promise17WhatItWasAndWhatItIs() {
        NewsCow x = Check.of("1!1;p1");
        int was = 1;
        for (int v : new int[] {0, 7, 65536, 1103527590, 2147483647, 3}) {
            due("seed(" + v + ")", x.seed(v), was);
            was = v;
        }
        // 3310545735 and 12345 more, less 2147483648: 1163074432; by 128 is 9086519, by 4 leaves 3
        due("drift(1)", x.drift(1), 3);
        due("the draw goes on from it", x.seed(0), 1163074432);
    }
}
