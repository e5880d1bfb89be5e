import java.util.ArrayList;
import java.util.Arrays;
import java.util.List;

/** Promises 18 to 26: what is foretold, and nothing changed by it. */
public final class ForetoldTest {
    private static final Check check = new Check("ForetoldTest");

    public static void main(String[] args) {
        tells();
        fewestAndNext();
        fewestOfSome();
        fewestWrong();
        once();
        onceNone();
        halves();
        likely();
        noticed();
        singleByHand();
        singleByAllOrders();
        share();
        nothingChanges();
        check.end();
    }

    private static void due(String call, long got, long want) {
        check.due(call, got, want);
    }

    private static void tells() {
        NewsCow x = Check.of("1294;p1,d2,f2,s9");
        x.answer(0, 7, 1);
        due("18: plain", x.tells(0, 14), 6);
        due("18: plain, none of them", x.tells(0, 8), 0);
        due("18: dull", x.tells(1, 7), 4);
        due("18: fanciful", x.tells(2, 11), 7);
        due("18: fanciful, but two", x.tells(2, 9), 1);
        due("18: sleepy on day 1", x.tells(3, 3), 3);
        x.answer(0, 7, 1);
        x.answer(0, 7, 1);
        due("18: sleepy on day 3", x.tells(3, 3), 0);
        due("18: tells(4, 1)", x.tells(4, 1), NewsCow.BAD);
        due("18: tells(-1, 1)", x.tells(-1, 1), NewsCow.BAD);
        due("18: tells(0, 0)", x.tells(0, 0), NewsCow.BAD);
        due("18: tells(0, 16)", x.tells(0, 16), NewsCow.BAD);
    }

    private static void plan(String text, int fewest, int next) {
        NewsCow x = Check.of(text);
        due("19: fewest of " + text, x.fewest(0), fewest);
        due("20: next of " + text, x.next(0), next);
    }

    private static void fewestAndNext() {
        plan("1;p1", 0, NewsCow.NONE);
        plan("11;p1", 1, 1);
        plan("111;p1", 2, 1);
        plan("1111;p1", 2, 3);
        plan("11111;p1", 3, 1);
        plan("111111;p1", 3, 3);
        plan("1111111;p1", 3, 7);
        plan("11111111;p1", 3, 15);
        // one at a time: she alone is strong enough, the last one needs none
        plan("11111111;d1", 7, 1);
        plan("11111111;f1", 7, 1);
        // by two of eight: six are left, then four, then two
        plan("11111111;d2", 4, 3);
        plan("11111111;f2", 4, 3);
        plan("11111111;f9", 3, 15);
        plan("11111111;o9", 3, 15);
        plan("11;s9", NewsCow.NONE, NewsCow.NONE);
        plan("1;s9", 0, NewsCow.NONE);
    }

    private static void fewestOfSome() {
        NewsCow x = Check.of("91111111;p1,d3,s1,o1");
        x.answer(0, 0b11100000, 1);
        due("19: three are left", x.fewest(0), 2);
        due("20: the first mix", x.next(0), 32);
        due("19: dull, by mixes with others", x.fewest(1), 2);
        due("19: sleepy on day 1", x.fewest(2), 2);
        due("20: poet on day 1", x.next(3), 32);
        x.answer(0, 64, 1);
        due("19: one is left", x.fewest(0), 0);
        due("20: none is needed", x.next(0), NewsCow.NONE);
        x.answer(0, 64, 0);
        due("19: none is left", x.fewest(0), 0);
        due("20: none is needed", x.next(0), NewsCow.NONE);
        x.forget();
        due("19: sleepy on day 3", x.fewest(2), NewsCow.NONE);
        due("19: poet on day 3", x.fewest(3), 7);
        // a fanciful one tells less by a mix with cows that it may not be
        x = Check.of("1111;f1,p1");
        x.answer(1, 12, 1);
        due("20: fanciful", x.next(0), 4);
    }

    private static void fewestWrong() {
        NewsCow x = Check.of("11;p1");
        due("19: fewest(1)", x.fewest(1), NewsCow.BAD);
        due("19: fewest(-1)", x.fewest(-1), NewsCow.BAD);
        due("20: next(1)", x.next(1), NewsCow.BAD);
        due("20: next(-1)", x.next(-1), NewsCow.BAD);
        x = new NewsCow();
        x.taster(0, 1);
        due("19: no cows", x.fewest(0), 0);
        due("20: no cows", x.next(0), NewsCow.NONE);
    }

    private static void mixesAtOnce(String text, int... mixes) {
        NewsCow x = Check.of(text);
        due("21: how many of " + text, x.once(0, -1), mixes.length);
        for (int k = 0; k < mixes.length; k++) {
            due("21: the " + k + "-th of " + text, x.once(0, k), mixes[k]);
        }
        due("21: not so many of " + text, x.once(0, mixes.length), NewsCow.NONE);
        due("21: not so many of " + text, x.once(0, Integer.MAX_VALUE), NewsCow.NONE);
    }

    private static void once() {
        mixesAtOnce("1;p1");
        mixesAtOnce("11;p1", 1);
        mixesAtOnce("111;p1", 1, 2);
        mixesAtOnce("1111;p1", 3, 5);
        mixesAtOnce("1111;d2", 3, 5);
        mixesAtOnce("1113;o2", 3, 5);
        mixesAtOnce("1;s1");
        mixesAtOnce("13;d1", 1);
        NewsCow x = Check.of("11111111;p1,f1");
        x.answer(0, 0b10110000, 1);
        due("21: of three left", x.once(0, -1), 2);
        due("21: the lesser", x.once(0, 0), 16);
        due("21: the greater", x.once(0, 1), 32);
        due("21: not so many", x.once(0, 2), NewsCow.NONE);
        due("21: fanciful", x.once(1, 1), 32);
        x.answer(0, 0b10010000, 1);
        due("21: of two left", x.once(0, -1), 1);
        due("21: the one", x.once(0, 0), 16);
        due("21: no other, though there was one", x.once(0, 1), NewsCow.NONE);
        x.answer(0, 16, 1);
        due("21: of one left", x.once(0, -1), 0);
        due("21: none", x.once(0, 0), NewsCow.NONE);
    }

    private static void onceNone() {
        String[] texts = {"11111;p1", "1111;d1", "1111;f1", "11;s9"};
        for (String text : texts) {
            NewsCow x = Check.of(text);
            for (int k = -1; k < 3; k++) {
                due("21: none of " + text, x.once(0, k), NewsCow.NONE);
            }
        }
        NewsCow x = Check.of("11;p1");
        due("21: once(0, -2)", x.once(0, -2), NewsCow.BAD);
        due("21: once(1, 0)", x.once(1, 0), NewsCow.BAD);
        due("21: once(-1, 0)", x.once(-1, 0), NewsCow.BAD);
    }

    private static void half(String text, int mix, int part) {
        NewsCow x = Check.of(text);
        due("22: the mix of " + text, x.halves(0, 0), mix);
        due("22: how many of " + text, x.halves(0, 1), part);
    }

    private static void halves() {
        half("1;p1", NewsCow.NONE, NewsCow.NONE);
        half("11;p1", 1, 1);
        half("111;p1", 1, 2);
        half("11111111;p1", 15, 4);
        half("11111111;d1", 1, 7);
        half("11111111;f3", 7, 5);
        half("111;s9", 1, 3);
        NewsCow x = Check.of("11111111;p1");
        x.answer(0, 0b11110000, 1);
        due("22: of those that it may be", x.halves(0, 0), 0b110000);
        due("22: how many", x.halves(0, 1), 2);
        x.answer(0, 15, 1);
        due("22: it may be none", x.halves(0, 1), NewsCow.NONE);
        due("22: halves(0, 2)", x.halves(0, 2), NewsCow.BAD);
        due("22: halves(0, -1)", x.halves(0, -1), NewsCow.BAD);
        due("22: halves(1, 0)", x.halves(1, 0), NewsCow.BAD);
    }

    private static void fraction(String call, long above, long below, long wantAbove, long wantBelow) {
        due(call + ", above", above, wantAbove);
        due(call + ", below", below, wantBelow);
    }

    private static void likely() {
        NewsCow x = Check.of("2343;p1");
        fraction("23: likely(0)", x.likely(0, 0), x.likely(0, 1), 1, 6);
        fraction("23: likely(1)", x.likely(1, 0), x.likely(1, 1), 1, 4);
        fraction("23: likely(2)", x.likely(2, 0), x.likely(2, 1), 1, 3);
        x.answer(0, 6, 1);
        fraction("23: likely(2) of two", x.likely(2, 0), x.likely(2, 1), 4, 7);
        fraction("23: she may not be", x.likely(0, 0), x.likely(0, 1), 0, 1);
        x.answer(0, 4, 1);
        fraction("23: surely", x.likely(2, 0), x.likely(2, 1), 1, 1);
        x.answer(0, 4, 0);
        fraction("23: none", x.likely(2, 0), x.likely(2, 1), 0, 1);
        x = Check.of("1");
        fraction("23: one cow of one", x.likely(0, 0), x.likely(0, 1), 1, 1);
        x = Check.of("1212");
        fraction("23: one of six", x.likely(2, 0), x.likely(2, 1), 1, 6);
        due("23: likely(4, 0)", x.likely(4, 0), NewsCow.BAD);
        due("23: likely(-1, 0)", x.likely(-1, 0), NewsCow.BAD);
        due("23: likely(0, 2)", x.likely(0, 2), NewsCow.BAD);
        due("23: likely(0, -1)", x.likely(0, -1), NewsCow.BAD);
    }

    private static void noticed() {
        NewsCow x = Check.of("2343;p1,d2,s1");
        fraction("24: plain", x.noticed(0, 3, 0), x.noticed(0, 3, 1), 5, 12);
        fraction("24: plain, lowest terms", x.noticed(0, 10, 0), x.noticed(0, 10, 1), 1, 2);
        fraction("24: dull", x.noticed(1, 3, 0), x.noticed(1, 3, 1), 1, 4);
        fraction("24: never", x.noticed(2, 3, 0), x.noticed(2, 3, 1), 0, 1);
        fraction("24: surely", x.noticed(0, 15, 0), x.noticed(0, 15, 1), 1, 1);
        x.answer(0, 6, 1);
        fraction("24: of two", x.noticed(0, 5, 0), x.noticed(0, 5, 1), 4, 7);
        x.answer(0, 6, 0);
        fraction("24: it may be none", x.noticed(0, 5, 0), x.noticed(0, 5, 1), 0, 1);
        due("24: noticed(3, 1, 0)", x.noticed(3, 1, 0), NewsCow.BAD);
        due("24: noticed(-1, 1, 0)", x.noticed(-1, 1, 0), NewsCow.BAD);
        due("24: noticed(0, 0, 0)", x.noticed(0, 0, 0), NewsCow.BAD);
        due("24: noticed(0, 16, 0)", x.noticed(0, 16, 0), NewsCow.BAD);
        due("24: noticed(0, 1, 2)", x.noticed(0, 1, 2), NewsCow.BAD);
        due("24: noticed(0, 1, -1)", x.noticed(0, 1, -1), NewsCow.BAD);
    }

    private static void order(NewsCow x, String name, int above, int below, int... cows) {
        for (int k = 0; k < cows.length; k++) {
            due("25: the " + k + "-th of " + name, x.single(k), cows[k]);
        }
        due("25: not so many of " + name, x.single(cows.length), NewsCow.NONE);
        due("25: not so many of " + name, x.single(Integer.MAX_VALUE), NewsCow.NONE);
        fraction("25: the mean of " + name, x.single(-1), x.single(-2), above, below);
    }

    private static void singleByHand() {
        order(new NewsCow(), "no cows", 0, 1);
        order(Check.of("5"), "5", 0, 1, 0);
        order(Check.of("15"), "15: the last two by number", 1, 1, 0, 1);
        order(Check.of("51"), "51", 1, 1, 0, 1);
        // 9 + 2 * (1 + 5) of 15
        order(Check.of("195"), "195", 7, 5, 1, 0, 2);
        order(Check.of("555"), "555", 5, 3, 0, 1, 2);
        // 5 + 10 + 3 * (5 + 1) of 16
        order(Check.of("1555"), "1555", 33, 16, 1, 2, 0, 3);
        NewsCow x = Check.of("9195;p1");
        x.answer(0, 14, 1);
        order(x, "195 of 9195", 7, 5, 2, 1, 3);
        x.answer(0, 1, 1);
        order(x, "none", 0, 1);
        due("25: single(-3)", x.single(-3), NewsCow.BAD);
        due("25: single(MIN)", x.single(Integer.MIN_VALUE), NewsCow.BAD);
    }

    private static void singleByAllOrders() {
        int draw = 12345;
        for (int run = 0; run < 300; run++) {
            StringBuilder text = new StringBuilder();
            for (int c = 0; c < 1 + run % 6; c++) {
                draw = draw * 1103515245 + 12345 & 0x7fffffff;
                text.append((char) ('1' + (draw >> 16) % (run % 2 == 0 ? 3 : 9)));
            }
            NewsCow x = Check.of(text.toString());
            int[] best = null;
            int least = Integer.MAX_VALUE;
            // orders come by rising numbers, so that the first of the best ones is kept
            for (int[] order : orders(text.length())) {
                int trials = trials(text, order);
                if (trials < least) {
                    least = trials;
                    best = order;
                }
            }
            for (int k = 0; k < best.length; k++) {
                due("25: the " + k + "-th of " + text, x.single(k), best[k]);
            }
            due("25: the mean of " + text, (long) x.single(-1) * x.count(5), (long) least * x.single(-2));
        }
    }

    private static int trials(StringBuilder text, int[] order) {
        int sum = 0;
        for (int k = 0; k < order.length; k++) {
            sum += (text.charAt(order[k]) - '0') * (k == order.length - 1 ? k : k + 1);
        }
        return sum;
    }

    private static List<int[]> orders(int size) {
        List<int[]> all = new ArrayList<>();
        lengthen(new int[0], size, all);
        return all;
    }

    private static void lengthen(int[] begun, int size, List<int[]> all) {
        if (begun.length == size) {
            all.add(begun);
            return;
        }
        for (int c = 0; c < size; c++) {
            int cow = c;
            if (Arrays.stream(begun).noneMatch(other -> other == cow)) {
                int[] longer = Arrays.copyOf(begun, begun.length + 1);
                longer[begun.length] = c;
                lengthen(longer, size, all);
            }
        }
    }

    private static void share() {
        NewsCow x = Check.of("2343;p1");
        fraction("26: share(0, 7)", x.share(0, 7, 0), x.share(0, 7, 1), 2, 9);
        fraction("26: share(1, 15)", x.share(1, 15, 0), x.share(1, 15, 1), 1, 4);
        fraction("26: alone", x.share(2, 4, 0), x.share(2, 4, 1), 1, 1);
        fraction("26: not in it", x.share(0, 6, 0), x.share(0, 6, 1), 0, 1);
        x.answer(0, 8, 1);
        fraction("26: whatever it may be", x.share(0, 7, 0), x.share(0, 7, 1), 2, 9);
        due("26: share(4, 1, 0)", x.share(4, 1, 0), NewsCow.BAD);
        due("26: share(-1, 1, 0)", x.share(-1, 1, 0), NewsCow.BAD);
        due("26: share(0, 0, 0)", x.share(0, 0, 0), NewsCow.BAD);
        due("26: share(0, 16, 0)", x.share(0, 16, 0), NewsCow.BAD);
        due("26: share(0, 1, 2)", x.share(0, 1, 2), NewsCow.BAD);
        due("26: share(0, 1, -1)", x.share(0, 1, -1), NewsCow.BAD);
    }

    private static void nothingChanges() {
        NewsCow x = Check.of("2343!;p1,o2");
        x.answer(0, 14, 1);
        for (int t = 0; t < 2; t++) {
            x.tells(t, 3);
            x.fewest(t);
            x.next(t);
            x.once(t, 0);
            x.halves(t, 0);
            x.noticed(t, 3, 0);
        }
        x.likely(0, 0);
        x.single(0);
        x.share(0, 1, 0);
        int[] wants = {4, 2, 1, 14, 3, 12, 10, 1};
        for (int what = 0; what < wants.length; what++) {
            due("foretold, count(" + what + ")", x.count(what), wants[what]);
        }
        due("foretold, the draw", x.seed(1), 1);
    }
}
