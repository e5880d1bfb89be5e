/** Sentences of promises 29 to 35, and of the terms that they use: ordinary cases. */
final class Sentences29To35 {
    private static final int NOT = NewsCow.NOT;

    private Sentences29To35() {
    }

    private static void due(String call, long got, long want) {
        Edges.due(call, got, want);
    }

    /** Item i of a sheet of ints as a mix of eight cows, by which sheet 3 is lost; NOT: it is none. */
    private static int mixAt(NewsCow x, int sheet, int i) {
        x.sheet(3, 2, 2);
        x.item(3, 2, 1, 1);
        x.copy(sheet, i, 3, 0, 1);
        return x.fits(0, 3, 2, 0, 1, 0);
    }

    private static void mixes(String name, NewsCow x, int sheet, int... wants) {
        for (int k = 0; k < wants.length; k++) {
            due(name + ", item " + k, mixAt(x, sheet, k), wants[k]);
        }
    }

    // ---- 29 fits

    /** By which of eight cows all answers but some would be so, told by one call for each cow and pair. */
    private static int fitting(NewsCow x, int taster, int lies, long... items) {
        int set = 0;
        for (int c = 0; c < 8; c++) {
            int wrong = 0;
            for (int k = 0; k < items.length; k += 2) {
                wrong += x.notices(taster, (int) items[k], c) == items[k + 1] ? 0 : 1;
            }
            set |= wrong <= lies ? 1 << c : 0;
        }
        return set;
    }

    @Says(value = {"By n pairs, two items each of a SHEET taken as a row of a LANE, from item i on, of a TASTER:", "FITS (what 0), LIES (1),"},
        terms = {
        "A row tells n pairs (1 .. 6): a MIX (1 .. 255), whether it was NOTICED (1, 0), all on this DAY by one TASTER.",
        "FITS: COWS (a set, of all that there are) by which all would be so;",
        "LIES: by which all but one at most would be so."})
    static void promise29FitsAndLiesByEachTasterAndDay() {
        long[] items = {15, 1, 204, 0, 85, 1, 255, 0, 1, 0, 50, 1};
        for (int day = 0; day < 4; day++) {
            for (int taster = 0; taster < 4; taster++) {
                NewsCow x = Check.row("13922517;p1,d3,o2,s9", items);
                for (int k = 0; k < day; k++) {
                    x.answer(0, 1, 1);
                }
                for (int n = 1; n <= 6; n++) {
                    long[] pairs = java.util.Arrays.copyOf(items, 2 * n);
                    due("day " + day + ", taster " + taster + ", " + n + " pairs, fits",
                        x.fits(taster, 0, 2, 0, n, 0), fitting(x, taster, 0, pairs));
                    due("day " + day + ", taster " + taster + ", " + n + " pairs, lies",
                        x.fits(taster, 0, 2, 0, n, 1), fitting(x, taster, 1, pairs));
                }
            }
        }
        NewsCow x = Check.row("13922517;p1,d3,o2,s9", items);
        due("from item 2 on", x.fits(0, 0, 2, 2, 2, 0), fitting(x, 0, 0, 204, 0, 85, 1));
        due("from item 8 on", x.fits(0, 0, 2, 8, 2, 1), fitting(x, 0, 1, 1, 0, 50, 1));
    }

    @Says(value = "TASTES: KINDS (2), how FINE (3).", terms = "TASTES: KINDS (a set) of him by which FITS has a cow at least; how FINE (1 .. 9, a set).")
    static void promise29TastesAsIfHeWereOfAnother() {
        long[][] rows = {{7, 1, 8, 1}, {15, 1, 3, 0}, {15, 0, 8, 0}, {12, 1, 3, 1}, {6, 1, 6, 0}, {14, 1, 2, 0, 4, 0}};
        for (long[] items : rows) {
            for (int day = 0; day < 4; day++) {
                for (int kind = 0; kind < 5; kind++) {
                    for (int fine = 1; fine <= 9; fine += 2) {
                        tastes(items, day, kind, fine);
                    }
                }
            }
        }
    }

    /** What is told of him is held against tasters of each kind, and of each fineness, one by one. */
    private static void tastes(long[] items, int day, int kind, int fine) {
        String name = "day " + day + ", " + "pdfso".charAt(kind) + fine;
        NewsCow x = tasted(items, day, kind, fine);
        int kinds = 0;
        for (int other = 0; other < 5; other++) {
            kinds |= tasted(items, day, other, fine).fits(1, 0, 2, 0, items.length / 2, 0) != 0 ? 1 << other : 0;
        }
        int fines = 0;
        for (int other = 1; other <= 9; other++) {
            fines |= tasted(items, day, kind, other).fits(1, 0, 2, 0, items.length / 2, 0) != 0 ? 1 << other : 0;
        }
        due(name + ", kinds", x.fits(1, 0, 2, 0, items.length / 2, 2), kinds);
        due(name + ", how fine", x.fits(1, 0, 2, 0, items.length / 2, 3), fines);
    }

    /** Four cows, and taster 1 of a kind, on a day. */
    private static NewsCow tasted(long[] items, int day, int kind, int fine) {
        NewsCow x = Check.row("1139;p1", items);
        x.taster(kind, fine);
        for (int k = 0; k < day; k++) {
            x.answer(0, 15, 1);
        }
        return x;
    }

    // ---- 30 slips

    @Says(value = "SLIPS of such a row: above (what 0), below (1).", terms = {
        "SLIPS by c of 10 (0 .. 10): each answer of such a row is the other way round by c of 10, apart:",
        "how likely it is a cow then, of those that it MAY BE, each as likely as it gives MILK ahead of the row: a fraction"})
    static void promise30ByMilkAndByEachAnswer() {
        // of cows 0, 1, 2 (3, 1, 2): the first answer is right by 0 and 1, the second by 1 and 2, the third by 1
        NewsCow x = Check.row("3124;p1", 3, 1, 6, 1, 2, 1);
        x.answer(0, 7, 1);
        slips("none slips: she alone", x, 1, 0, 3, 1, 1);
        slips("none slips: not she", x, 0, 0, 3, 0, 1);
        // one answer: 3 * 8 and 1 * 8 of that and 2 * 2
        slips("2 of 10, one", x, 0, 2, 1, 24, 36, 12);
        slips("2 of 10, one", x, 1, 2, 1, 8, 36, 4);
        slips("2 of 10, one", x, 2, 2, 1, 4, 36, 4);
        // three: 3 * 8 * 2 * 2, 1 * 8 * 8 * 8, 2 * 2 * 8 * 2
        slips("2 of 10, three", x, 0, 2, 3, 96, 672, 96);
        slips("2 of 10, three", x, 1, 2, 3, 512, 672, 32);
        slips("2 of 10, three", x, 2, 2, 3, 64, 672, 32);
        slips("she may not be", x, 3, 2, 3, 0, 1);
        // the other way round by as much: 3 * 2 * 8 * 8, 1 * 2 * 2 * 2, 2 * 8 * 2 * 8
        slips("8 of 10, three", x, 0, 8, 3, 384, 648, 24);
        slips("8 of 10, three", x, 2, 8, 3, 256, 648, 8);
        slips("by half nothing is told", x, 0, 5, 3, 3, 6, 3);
    }

    private static void slips(String name, NewsCow x, int cow, int c, int n, long above, long below, long divisor) {
        slips(name, x, cow, c, n, above / divisor, below / divisor);
    }

    private static void slips(String name, NewsCow x, int cow, int c, int n, long above, long below) {
        Edges.fraction(name + ", cow " + cow, x.slips(cow, 0, c, 0, 2, 0, n, 0), x.slips(cow, 0, c, 0, 2, 0, n, 1), above, below);
    }

    // ---- 31 film

    @Says("TELLS by MIXES 1 to n (1 .. 24, of COWS that there are), an item each, comes to a SHEET likewise: n.")
    static void promise31TellsByMixesOneToN() {
        for (int n = 1; n <= 24; n++) {
            NewsCow x = Check.of("11111111;f2,p1");
            x.answer(1, 127, 1);
            x.sheet(0, 2, 24);
            due("film of " + n, x.film(0, n, 0, 2, 24 - n), n);
            for (int i = 0; i < 24; i += 5) {
                int mix = i - (24 - n) + 1;
                int want = mix < 1 ? NOT : Integer.bitCount(mix) > 2 ? 127 : mix;
                x.sheet(3, 2, 2);
                x.item(3, 2, 1, 1);
                x.copy(0, i, 3, 0, 1);
                due("film of " + n + ", item " + i, x.fits(1, 3, 2, 0, 1, 0), want);
            }
        }
    }

    // ---- 32 sheet, 33 drop, 34 item

    @Says(value = "A SHEET holds a new row of a LANE: n.", terms = {"SIZE -14"})
    static void promise32ARowOfEachLaneAndLength() {
        NewsCow x = new NewsCow();
        for (int n = 0; n <= 24; n++) {
            int sheet = n % 4;
            int lane = n * 7 % 4;
            due("sheet(" + sheet + ", " + lane + ", " + n + ")", x.sheet(sheet, lane, n), n);
            due("the last item", x.item(sheet, lane, n - 1, 1), n == 0 ? NewsCow.INDEX : 1);
            due("one more", x.item(sheet, lane, n, 1), NewsCow.INDEX);
            due("of another lane", x.item(sheet, (lane + 1) % 4, 0, 1), NewsCow.CAST);
        }
        due("below 0", x.sheet(0, 0, -1), -14);
    }

    @Says("A SHEET holds nothing: how many items it had.")
    static void promise33HowManyItemsItHad() {
        NewsCow x = new NewsCow();
        for (int n = 0; n <= 24; n++) {
            x.sheet(n % 4, n % 3, n);
            due("drop of " + n, x.drop(n % 4), n);
            due("nothing", x.item(n % 4, n % 3, 0, 1), NewsCow.NULL);
        }
    }

    @Says(value = "Item i of a SHEET, taken as a row of a LANE, becomes v, its lowest bits: 1.",
        terms = {"CAST -12 (of SHEETS another LANE);", "what the machine finds: NULL -11, INDEX -13,"})
    static void promise34EachItemOfEachLane() {
        for (int lane = 0; lane < 4; lane++) {
            NewsCow x = Check.of("11111111;p1");
            x.sheet(0, lane, 24);
            for (int i = 0; i < 24; i += 2) {
                due("item " + i, x.item(0, lane, i, 3 * i + 1), 1);
                due("item " + (i + 1), x.item(0, lane, i + 1, 1), 1);
            }
            for (int i = 0; i < 24; i += 2) {
                due("lane " + lane + ", item " + i, x.fits(0, 0, lane, i, 1, 0), 3 * i + 1);
            }
            due("no row", x.item(1, lane, 0, 1), -11);
            due("another lane", x.item(0, 3 - lane, 0, 1), -12);
            due("no item", x.item(0, lane, 24, 1), -13);
        }
    }

    // ---- 35 copy

    @Says(value = "n items of a SHEET from i on come to another one (or the same) from j on, as if all were taken ahead: n.")
    static void promise35FromOneToAnotherOrTheSame() {
        int[] ones = {1, 2, 4, 8, 16, 32};
        int[] others = {64, 128, 3, 5, 6, 7};
        for (int to = 0; to < 2; to++) {
            for (int i = 0; i <= 6; i++) {
                for (int j = 0; j <= 6; j++) {
                    int n = 6 - Math.max(i, j);
                    NewsCow x = Check.row("11111111;p1", 1, 2, 4, 8, 16, 32);
                    x.sheet(1, 2, 6);
                    Check.items(x, 1, 2, 64, 128, 3, 5, 6, 7);
                    int[] wants = (to == 0 ? ones : others).clone();
                    System.arraycopy(ones.clone(), i, wants, j, n);
                    due("copy of " + n, x.copy(0, i, to, j, n), n);
                    mixes("from " + i + " to " + j + " of sheet " + to, x, to, wants);
                }
            }
        }
    }
}
