import java.util.ArrayDeque;
import java.util.Deque;

/** Promises 1 to 35 in runs of 512 calls on one object: what the last call answers is promised as the first is. */
final class LongRuns {
    private static final int NONE = NewsCow.NONE;
    private static final int FULL = NewsCow.FULL;
    private static final int NOT = NewsCow.NOT;
    private static final int INDEX = NewsCow.INDEX;
    /** The herd of a run whose answers ../shared/tests tells. */
    private static final String EIGHT = "13!922517;p5,d3,f2,s9";

    private LongRuns() {
    }

    // ---- 1 to 10

    static void promise01ANewObjectBesideOneThatIsSpent() {
        Run run = Run.of("12345678!;p1,d2,f3,o4", 400);
        while (run.left() > 0) {
            run.call(x -> x.drift(40));
        }
        run.end();
        NewsCow fresh = new NewsCow();
        Edges.counts(fresh, 0, 0, 0, 0, NONE, 0, 0, 0);
        Edges.due("the draw", fresh.seed(0), 1);
    }

    static void promise02HerdsGrowTimeAndAgain() {
        Run run = new Run();
        run.idle(510);
        while (run.left() > 0) {
            run.herd("5");
            for (int k = 1; k < 8; k++) {
                int number = k;
                run.due("cow " + k, x -> x.cow(number), number);
            }
            run.due("a ninth", x -> x.cow(9), FULL);
        }
        run.end();
    }

    static void promise03TastersComeTimeAndAgain() {
        Run run = new Run();
        run.idle(511);
        while (run.left() > 0) {
            run.herd("5");
            for (int k = 0; k < 4; k++) {
                int number = k;
                run.due("taster " + k, x -> x.taster(4 - number, 9 - number), number);
            }
            run.due("a fifth", x -> x.taster(0, 1), FULL);
        }
        run.end();
    }

    static void promise04MilkChangesTimeAndAgain() {
        Run run = Run.of("12345678", 503);
        int[] milks = {1, 2, 3, 4, 5, 6, 7, 8};
        for (int k = 0; run.left() > 0; k++) {
            int cow = k * 3 % 8;
            int v = 1 + k * 5 % 9;
            run.due("milk(" + cow + ", " + v + ")", x -> x.milk(cow, v), milks[cow]);
            milks[cow] = v;
        }
        run.end();
    }

    static void promise05TastersOfEachHerd() {
        Run run = new Run();
        run.idle(506);
        for (int k = 0; run.left() > 0; k++) {
            int kind = k % 5;
            int fine = 1 + k % 9;
            // 5 letters, herd, 5 looks
            run.herd("1;" + "pdfso".charAt(kind) + fine + " ");
            run.due("no second taster", x -> x.at(1, 0), NewsCow.BAD);
            run.due("how many", x -> x.count(1), 1);
            run.due("kind", x -> x.at(0, 0), kind);
            run.due("no third thing", x -> x.at(0, 2), NewsCow.BAD);
            run.due("how fine", x -> x.at(0, 1), fine);
        }
        run.end();
    }

    static void promise06MilkOfEachTimeAndAgain() {
        Run run = Run.of("12345678", 502);
        for (int k = 0; run.left() > 0; k++) {
            int cow = k % 8;
            int v = 1 + k % 9;
            run.call(x -> x.milk(cow, v));
            run.due("of(" + cow + ")", x -> x.of(cow), v);
        }
        run.end();
    }

    static void promise07ByTheDayForAHundredDays() {
        Run run = Run.of("134;p1,s3,o1", 496);
        for (int day = 0; run.left() > 0; day++) {
            int awake = day % 3 == 0 ? 0 : 1;
            int even = day % 2 == 0 ? 1 : 0;
            run.due("day " + day + ", sleepy", x -> x.notices(1, 7, 1), awake);
            run.due("day " + day + ", sleepy, too weak", x -> x.notices(1, 7, 0), 0);
            run.due("the next day", x -> x.answer(0, 7, 1), 7);
            int wasEven = 1 - even;
            run.due("day " + (day + 1) + ", poet", x -> x.notices(2, 2, 1), wasEven);
        }
        run.end();
    }

    static void promise08TheTapeFillsTimeAndAgain() {
        Run run = new Run();
        while (run.left() >= 42) {
            for (int k = 1; k <= 40; k++) {
                int letter = 31 + k;
                run.due("letter " + k, x -> x.type(letter), k);
            }
            run.due("one more", x -> x.type('1'), FULL);
            run.call(x -> x.herd());
        }
        for (int k = 1; run.left() > 0; k++) {
            run.due("letter " + k, x -> x.type('1'), k);
        }
        run.end();
    }

    static void promise09HerdsOneBehindTheOther() {
        String[] texts = {"12345678!;p1,d2,f3,s4", "5", "5!;o9", "12", "123456789", " 1 ; p", "9!8!", ""};
        int[] answers = {8, 1, 1, 2, -28, -26, -23, -20};
        int[] cows = {8, 1, 1, 2, 2, 2, 2, 2};
        int[] bearers = {7, NONE, 0, NONE, NONE, NONE, NONE, NONE};
        int[] tasters = {4, 0, 1, 0, 0, 0, 0, 0};
        Run run = new Run();
        while (run.left() >= 120) {
            for (int k = 0; k < texts.length; k++) {
                for (char letter : texts[k].toCharArray()) {
                    run.call(x -> x.type(letter));
                }
                run.due("'" + texts[k] + "'", x -> x.herd(), answers[k]);
                run.due("cows", x -> x.count(0), cows[k]);
                run.due("tasters", x -> x.count(1), tasters[k]);
                run.due("the bearer", x -> x.count(4), bearers[k]);
            }
        }
        run.idle(4);
        run.some(x -> x.type('7'), x -> x.type(' '), x -> x.type('8'));
        run.due("the last", x -> x.herd(), 2);
        run.end();
    }

    static void promise10EachCountAtTheLastCalls() {
        Run run = Run.of("12345678!;p1,d2", 20);
        run.some(x -> x.drink(0, 240), x -> x.drink(0, 15), x -> x.bear(3));
        run.idle(8);
        int[] wants = {8, 2, 2, 240, 3, 36, 26, 3};
        for (int k = 0; k < wants.length; k++) {
            int what = k;
            run.due("count(" + what + ")", x -> x.count(what), wants[what]);
        }
        run.end();
    }

    // ---- 11 to 17

    static void promise11FiveHundredAnswers() {
        Run run = Run.of("12345678;p1", 500);
        for (int k = 0; k < 492; k++) {
            run.due("all stay", x -> x.answer(0, 255, 1), 255);
        }
        int left = 255;
        for (int k = 0; k < 7; k++) {
            int mix = 1 << k;
            left &= ~mix;
            run.due("all but " + (k + 1), x -> x.answer(0, mix, 0), left);
        }
        run.due("none is left", x -> x.answer(0, 128, 0), 0);
        run.end();
    }

    static void promise12FiveHundredDrinks() {
        Run run = Run.of("11!;p1,o1,s9", 498);
        for (int day = 0; run.left() > 0; day++) {
            int even = day % 2 == 0 ? 1 : 0;
            int awake = day % 3 == 0 ? 0 : 1;
            switch (day % 5) {
                case 0 -> run.due("plain", x -> x.drink(0, 2), 1);
                case 1 -> run.due("plain, not in it", x -> x.drink(0, 1), 0);
                case 2 -> run.due("poet on day " + day, x -> x.drink(1, 2), even);
                case 3 -> run.due("poet of both on day " + day, x -> x.drink(1, 3), even);
                default -> run.due("sleepy on day " + day, x -> x.drink(2, 2), awake);
            }
        }
        run.end();
    }

    static void promise12TheLastDayByDrifts() {
        Run run = Run.of("12345678!;p1", 499);
        Drifted drifted = new Drifted();
        for (int k = 0; k < 249; k++) {
            run.due("drift " + k, x -> x.drift(40), drifted.behind(40));
        }
        run.due("the day", x -> x.count(2), drifted.day);
        for (int day = drifted.day; day < 9999; day++) {
            run.due("she on day " + day, x -> x.drink(0, 128), 1);
        }
        run.idle(1);
        run.due("the day would be 10000", x -> x.drink(0, 128), FULL);
        run.end();
    }

    /** What drifts do to eight cows of whom the last one bears it, with one plain taster. */
    private static final class Drifted {
        private long draw = 1;
        private int day = 0;
        private int mayBe = 255;

        /** What it may be behind so many. */
        int behind(int times) {
            for (int time = 0; time < times; time++) {
                draw = (draw * 1103515245L + 12345L) % (1L << 31);
                int mix = (int) (draw / 128 % 256);
                if (mix != 0) {
                    day++;
                    mayBe &= mix >= 128 ? mix : ~mix;
                }
            }
            return mayBe;
        }
    }

    static void promise13ForgottenTimeAndAgain() {
        Run run = Run.of("12345;p1", 501);
        for (int k = 0; run.left() > 0; k++) {
            int mix = 1 + k % 30;
            run.due("answer", x -> x.answer(0, mix, 1), mix);
            run.due("forget()", x -> x.forget(), 5);
            run.due("all", x -> x.forget(), NOT);
        }
        run.end();
    }

    static void promise14BearersTimeAndAgain() {
        Run run = Run.of("12345678", 503);
        int was = NONE;
        for (int k = 0; run.left() > 0; k++) {
            int who = k % 9 == 8 ? NONE : k % 9;
            int before = was;
            run.due("bear(" + who + ")", x -> x.bear(who), before);
            was = who;
        }
        run.end();
    }

    static void promise15DriftsOneBehindTheOther() {
        Run run = Run.of("12345678!;p1", 497);
        Drifted drifted = new Drifted();
        for (int k = 0; run.left() > 1; k++) {
            int n = 1 + k % 30;
            run.due("drift(" + n + ")", x -> x.drift(n), drifted.behind(n));
            run.due("the day", x -> x.count(2), drifted.day);
            run.due("the draw", x -> x.seed((int) drifted.draw), drifted.draw);
            run.due("forget()", x -> x.forget(), drifted.mayBe == 255 ? NOT : 8);
            drifted.mayBe = 255;
        }
        run.due("the last", x -> x.drift(3), drifted.behind(3));
        run.end();
    }

    static void promise16DoneAndUndoneTimeAndAgain() {
        Run run = Run.of("12345678", 503);
        Deque<Integer> past = new ArrayDeque<>();
        int bearer = NONE;
        for (int k = 0; run.left() > 1; k++) {
            // twenty are told, eight of them are undone, for more there are none
            if (k % 32 < 20) {
                int before = bearer;
                int who = (bearer + 5 + k % 3) % 8;
                past.push(bearer);
                if (past.size() > 8) {
                    past.removeLast();
                }
                bearer = who;
                run.due("bear(" + who + ")", x -> x.bear(who), before);
            } else if (k % 2 == 0) {
                int more = past.isEmpty() ? NONE : past.size() - 1;
                bearer = past.isEmpty() ? bearer : past.pop();
                run.due("undo()", x -> x.undo(), more);
            } else {
                run.due("the bearer", x -> x.count(4), bearer);
            }
        }
        run.due("the last", x -> x.undo(), past.size() - 1);
        run.end();
    }

    static void promise17SeedsTimeAndAgain() {
        Run run = new Run();
        int was = 1;
        for (int k = 0; run.left() > 0; k++) {
            int v = k * 104729 & Integer.MAX_VALUE;
            int before = was;
            run.due("seed(" + v + ")", x -> x.seed(v), before);
            was = v;
        }
        run.end();
    }

    // ---- 18 to 28

    static void promise18TellsOfEveryMix() {
        Run run = Run.of(EIGHT, 490);
        for (int k = 0; run.left() > 0; k++) {
            int mix = 1 + k * 7 % 255;
            if (k % 2 == 0) {
                run.due("plain, " + mix, x -> x.tells(0, mix), mix);
            } else {
                run.due("fanciful, " + mix, x -> x.tells(2, mix), Integer.bitCount(mix) > 2 ? 255 : mix);
            }
        }
        run.end();
    }

    /** One call behind the other, over and over to the 512th: each has one answer. */
    private static void over(Run run, Look.Call[] calls, long... wants) {
        for (int k = 0; run.left() > 0; k++) {
            run.due("of " + calls.length + " calls the " + k % calls.length + "-th", calls[k % calls.length], wants[k % wants.length]);
        }
        run.end();
    }

    static void promise19OfFourTastersByTurns() {
        Look.Call[] calls = {x -> x.fewest(0), x -> x.fewest(1), x -> x.fewest(2), x -> x.fewest(3)};
        over(Run.of(EIGHT, 490), calls, 3, 4, 4, NONE);
    }

    static void promise20OfFourTastersByTurns() {
        Look.Call[] calls = {x -> x.next(0), x -> x.next(1), x -> x.next(2), x -> x.next(3)};
        over(Run.of(EIGHT, 489), calls, 15, 9, 3, NONE);
    }

    static void promise21AsItMayBeMoreAndLess() {
        Look.Call[] calls = {
            x -> x.once(0, 1), x -> x.once(0, -1), x -> x.once(1, -1), x -> x.once(0, 0), x -> x.once(0, 2),
            x -> x.answer(0, 12, 1), x -> x.once(0, -1), x -> x.once(0, 0), x -> x.once(0, 1), x -> x.undo()};
        over(Run.of("1111;p1,f1", 491), calls, 5, 2, NONE, 3, NONE, 12, 1, 4, NONE, 0);
    }

    static void promise22OfFourTastersByTurns() {
        Look.Call[] calls = {
            x -> x.halves(0, 0), x -> x.halves(1, 1), x -> x.halves(2, 0), x -> x.halves(3, 1),
            x -> x.halves(0, 1), x -> x.halves(1, 0), x -> x.halves(2, 1), x -> x.halves(3, 0)};
        over(Run.of(EIGHT, 490), calls, 15, 6, 3, 8, 4, 9, 6, 1);
    }

    static void promise23AsItMayBeMoreAndLess() {
        Look.Call[] calls = {
            x -> x.likely(7, 0), x -> x.likely(7, 1), x -> x.answer(0, 6, 1), x -> x.likely(7, 0), x -> x.likely(7, 1),
            x -> x.likely(2, 0), x -> x.likely(2, 1), x -> x.forget()};
        over(Run.of(EIGHT, 490), calls, 7, 30, 6, 0, 1, 3, 4, 8);
    }

    static void promise24OfFourTastersByTurns() {
        Look.Call[] calls = {
            x -> x.noticed(0, 170, 0), x -> x.noticed(0, 170, 1), x -> x.noticed(1, 6, 0), x -> x.noticed(1, 6, 1),
            x -> x.noticed(2, 15, 0), x -> x.noticed(2, 15, 1), x -> x.noticed(3, 1, 0), x -> x.noticed(3, 1, 1)};
        over(Run.of(EIGHT, 489), calls, 17, 30, 3, 10, 1, 1, 0, 1);
    }

    static void promise25AsItMayBeMoreAndLess() {
        // 9 + 7 * 2 + 5 * 3 + 3 * 4 + 2 * 5 + 2 * 6 + 1 * 7 + 1 * 7 of 30; of 9, 3, 1: 9 + 3 * 2 + 1 * 2 of 13
        Look.Call[] calls = {
            x -> x.single(0), x -> x.single(1), x -> x.single(7), x -> x.single(8), x -> x.single(-1), x -> x.single(-2),
            x -> x.answer(0, 7, 1), x -> x.single(0), x -> x.single(1), x -> x.single(3), x -> x.single(-1), x -> x.single(-2),
            x -> x.undo()};
        over(Run.of(EIGHT, 490), calls, 2, 7, 6, NONE, 43, 15, 7, 2, 0, NONE, 17, 13, 0);
    }

    static void promise26SharesByMilkThatChanges() {
        Look.Call[] calls = {
            x -> x.share(2, 6, 0), x -> x.share(2, 6, 1), x -> x.milk(2, 1), x -> x.share(2, 6, 0), x -> x.share(2, 6, 1),
            x -> x.milk(2, 9), x -> x.share(0, 6, 0)};
        over(Run.of(EIGHT, 490), calls, 3, 4, 9, 1, 4, 1, 0);
    }

    static void promise27ImagesTimeAndAgain() {
        Run run = Run.of("12345678", 501);
        for (int k = 0; run.left() > 1; k++) {
            int cow = k % 8;
            run.some(x -> x.bear(cow));
            run.due("image()", x -> x.image(), 1);
            run.some(x -> x.bear(NONE));
            run.due("restore()", x -> x.restore(), 1);
            run.due("the bearer", x -> x.count(4), cow);
        }
        run.due("the last", x -> x.image(), 1);
        run.end();
    }

    static void promise28OneImageRestoredTimeAndAgain() {
        Run run = Run.of("1234!;p1", 502);
        run.some(x -> x.answer(0, 14, 1), x -> x.image());
        while (run.left() > 5) {
            run.some(x -> x.drift(5), x -> x.milk(0, 9), x -> x.cow(5), x -> x.bear(NONE));
            run.due("restore()", x -> x.restore(), 1);
            run.due("four cows", x -> x.count(0), 4);
            run.due("milk", x -> x.of(0), 1);
            run.due("undo()", x -> x.undo(), 0);
            run.due("it may be all", x -> x.count(3), 15);
        }
        run.idle(1);
        run.due("the last", x -> x.restore(), 1);
        run.end();
    }

    // ---- 29 to 35

    static void promise29RowsOfEachLaneAndSheet() {
        Run run = Run.of("11111111;p1", 499);
        for (int k = 0; run.left() >= 14; k++) {
            int sheet = k % 4;
            int lane = k / 4 % 4;
            int mix = 1 + k * 5 % 127;
            run.some(x -> x.sheet(sheet, lane, 4), x -> x.item(sheet, lane, 0, mix), x -> x.item(sheet, lane, 1, 1),
                x -> x.item(sheet, lane, 2, 85), x -> x.item(sheet, lane, 3, 0));
            run.due("fits of " + mix, x -> x.fits(0, sheet, lane, 0, 2, 0), mix & ~85);
            run.due("lies of " + mix, x -> x.fits(0, sheet, lane, 0, 2, 1), 255 & (mix | ~85));
            run.due("a pair too many", x -> x.fits(0, sheet, lane, 0, 3, 0), INDEX);
            run.due("no mix", x -> x.fits(0, sheet, lane, 1, 1, 0), NOT);
        }
        run.idle(5);
        run.some(x -> x.sheet(0, 0, 2), x -> x.item(0, 0, 0, 5), x -> x.item(0, 0, 1, 1));
        run.due("kinds but for dull and sleepy ones", x -> x.fits(0, 0, 0, 0, 1, 2), 21);
        run.due("the last", x -> x.fits(0, 0, 0, 0, 1, 0), 5);
        run.end();
    }

    static void promise30ByEachSlip() {
        Run run = Run.of("12;p1", 506);
        run.some(x -> x.sheet(0, 3, 2), x -> x.item(0, 3, 0, 1), x -> x.item(0, 3, 1, 1));
        // by c of 10: 10 - c of that and 2 * c
        long[] above = {1, 9, 2, 7, 3, 1, 1, 3, 1, 1, 0};
        long[] below = {1, 11, 3, 13, 7, 3, 4, 17, 9, 19, 1};
        for (int k = 0; run.left() >= 2; k++) {
            int c = k % 11;
            run.due("above by " + c, x -> x.slips(0, 0, c, 0, 3, 0, 1, 0), above[c]);
            run.due("below by " + c, x -> x.slips(0, 0, c, 0, 3, 0, 1, 1), below[c]);
        }
        run.idle(1);
        run.due("the last", x -> x.slips(1, 0, 1, 0, 3, 0, 1, 0), 2);
        run.end();
    }

    static void promise31FilmsTimeAndAgain() {
        Run run = Run.of("11111111;p1", 500);
        run.some(x -> x.sheet(0, 2, 24), x -> x.sheet(1, 2, 2), x -> x.item(1, 2, 1, 1));
        for (int k = 0; run.left() > 4; k++) {
            int n = 1 + k % 24;
            run.due("film of " + n, x -> x.film(0, n, 0, 2, 24 - n), n);
            run.some(x -> x.copy(0, 23, 1, 0, 1));
            run.due("the last item", x -> x.fits(0, 1, 2, 0, 1, 0), n);
            run.due("one more", x -> x.film(0, n, 0, 2, 25 - n), INDEX);
        }
        run.idle(1);
        run.due("the last", x -> x.film(0, 24, 0, 2, 0), 24);
        run.end();
    }

    static void promise32SheetsTimeAndAgain() {
        Run run = new Run();
        for (int k = 0; run.left() > 0; k++) {
            int sheet = k % 4;
            int lane = k / 4 % 4;
            int n = k % 27 - 1;
            int want = n < 0 ? NewsCow.SIZE : n > 24 ? NewsCow.BAD : n;
            run.due("sheet of " + n, x -> x.sheet(sheet, lane, n), want);
        }
        run.end();
    }

    static void promise33DroppedTimeAndAgain() {
        Run run = new Run();
        run.idle(510);
        for (int k = 0; run.left() > 0; k++) {
            int sheet = k % 4;
            int n = k % 25;
            run.due("sheet", x -> x.sheet(sheet, 0, n), n);
            run.due("drop", x -> x.drop(sheet), n);
            run.due("again", x -> x.drop(sheet), NewsCow.NULL);
        }
        run.end();
    }

    static void promise34ItemsTimeAndAgain() {
        Run run = Run.of("11111111;p1", 500);
        run.some(x -> x.sheet(0, 1, 2), x -> x.item(0, 1, 1, 1));
        for (int k = 0; run.left() > 3; k++) {
            int mix = 1 + k * 11 % 255;
            run.due("item", x -> x.item(0, 1, 0, 65536L * mix + mix), 1);
            run.due("mix " + mix, x -> x.fits(0, 0, 1, 0, 1, 0), mix);
            run.due("no such item", x -> x.item(0, 1, 2, 0), INDEX);
        }
        run.idle(1);
        run.due("the last", x -> x.item(0, 1, 1, 0), 1);
        run.end();
    }

    static void promise35ItemsGoRoundTimeAndAgain() {
        Run run = Run.of("11111111;p1", 500);
        run.some(x -> x.sheet(0, 2, 8), x -> x.sheet(1, 2, 2), x -> x.item(1, 2, 1, 1));
        for (int k = 0; k < 8; k++) {
            int i = k;
            run.call(x -> x.item(0, 2, i, 1 << i));
        }
        // the first item goes behind all the others, which move up by one
        for (int k = 0; run.left() > 5; k++) {
            int first = 1 << k % 8;
            run.due("the first", x -> x.copy(0, 0, 1, 0, 1), 1);
            run.due("which it is", x -> x.fits(0, 1, 2, 0, 1, 0), first);
            run.due("all the others", x -> x.copy(0, 1, 0, 0, 7), 7);
            run.due("back", x -> x.copy(1, 0, 0, 7, 1), 1);
        }
        run.idle(1);
        run.due("the last", x -> x.copy(0, 0, 0, 1, 7), 7);
        run.end();
    }
}
