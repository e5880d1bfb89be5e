/** Promises 29 to 35: sheets, and the rows that they tell. */
public final class SheetTest {
    private static final Check check = new Check("SheetTest");
    private static final int MAX = Integer.MAX_VALUE;
    private static final int MIN = Integer.MIN_VALUE;

    public static void main(String[] args) {
        sheet();
        drop();
        item();
        copy();
        copyOfParts();
        copyRefused();
        fitsAndLies();
        tastes();
        fitsOfAllCows();
        fitsRefused();
        fitsNot();
        rowsOfLanes();
        slips();
        slipsOfMayBe();
        slipsRefused();
        film();
        filmOfLanes();
        filmRefused();
        check.end();
    }

    private static void due(String call, long got, long want) {
        check.due(call, got, want);
    }

    private static NewsCow eight() {
        return Check.of("13922517;p1,d3,f2,o9");
    }

    /** Item i of a sheet, if it is a mix: what FITS, if a plain taster noticed it (NOT: it is none). */
    private static int mixAt(NewsCow x, int sheet, int lane, int i) {
        x.sheet(3, lane, 2);
        x.item(3, lane, 1, 1);
        x.copy(sheet, i, 3, 0, 1);
        return x.fits(0, 3, lane, 0, 1, 0);
    }

    private static void sheet() {
        NewsCow x = eight();
        for (int lane = 0; lane < 4; lane++) {
            due("32: sheet", x.sheet(lane, lane, 24), 24);
            due("32: none", x.sheet(lane, lane, 0), 0);
            due("33: none", x.drop(lane), 0);
        }
        due("32: sheet(4, 0, 1)", x.sheet(4, 0, 1), NewsCow.BAD);
        due("32: sheet(-1, 0, 1)", x.sheet(-1, 0, 1), NewsCow.BAD);
        due("32: sheet(0, 4, 1)", x.sheet(0, 4, 1), NewsCow.BAD);
        due("32: sheet(0, -1, 1)", x.sheet(0, -1, 1), NewsCow.BAD);
        due("32: sheet(0, 0, 25)", x.sheet(0, 0, 25), NewsCow.BAD);
        due("32: sheet(0, 0, -1)", x.sheet(0, 0, -1), NewsCow.SIZE);
        due("32: sheet(0, 0, MIN)", x.sheet(0, 0, MIN), NewsCow.SIZE);
        due("32: BAD ahead of SIZE", x.sheet(4, 0, -1), NewsCow.BAD);
        due("32: BAD ahead of SIZE", x.sheet(0, 4, -1), NewsCow.BAD);
        due("32: refused changes nothing", x.drop(0), NewsCow.NULL);
        x.sheet(0, 2, 3);
        Check.items(x, 0, 2, 5, 1, 7);
        due("32: refused", x.sheet(0, 1, -1), NewsCow.SIZE);
        due("32: refused changes nothing", mixAt(x, 0, 2, 0), 5);
        due("32: a new row", x.sheet(0, 2, 3), 3);
        due("32: is empty", mixAt(x, 0, 2, 0), NewsCow.NOT);
        due("32: of another lane", x.sheet(0, 1, 2), 2);
        due("32: of another lane", x.item(0, 2, 0, 1), NewsCow.CAST);
        due("32: of another length", x.item(0, 1, 2, 1), NewsCow.INDEX);
    }

    private static void drop() {
        NewsCow x = new NewsCow();
        x.sheet(3, 0, 7);
        due("33: drop(4)", x.drop(4), NewsCow.BAD);
        due("33: drop(-1)", x.drop(-1), NewsCow.BAD);
        due("33: drop(3)", x.drop(3), 7);
        due("33: drop(3)", x.drop(3), NewsCow.NULL);
        due("34: item", x.item(3, 0, 0, 1), NewsCow.NULL);
    }

    private static void item() {
        NewsCow x = eight();
        x.sheet(0, 2, 2);
        due("34: item", x.item(0, 2, 0, 3), 1);
        due("34: item", x.item(0, 2, 1, 1), 1);
        due("34: fits", x.fits(0, 0, 2, 0, 1, 0), 3);
        due("34: past the end", x.item(0, 2, 2, 1), NewsCow.INDEX);
        due("34: below 0", x.item(0, 2, -1, 1), NewsCow.INDEX);
        due("34: MAX", x.item(0, 2, MAX, 1), NewsCow.INDEX);
        due("34: MIN", x.item(0, 2, MIN, 1), NewsCow.INDEX);
        due("34: CAST ahead of INDEX", x.item(0, 1, 2, 1), NewsCow.CAST);
        due("34: NULL ahead of INDEX", x.item(1, 1, 2, 1), NewsCow.NULL);
        due("34: BAD", x.item(4, 1, 2, 1), NewsCow.BAD);
        due("34: BAD", x.item(-1, 1, 2, 1), NewsCow.BAD);
        due("34: BAD ahead of NULL", x.item(1, 4, 2, 1), NewsCow.BAD);
        due("34: BAD ahead of CAST", x.item(0, -1, 0, 1), NewsCow.BAD);
        due("34: no items", x.sheet(0, 2, 0), 0);
        due("34: no items", x.item(0, 2, 0, 1), NewsCow.INDEX);
    }

    /** A sheet of ints with mixes 1, 2, 4 and so on. */
    private static void powers(NewsCow x, int sheet, int n) {
        x.sheet(sheet, 2, n);
        for (int k = 0; k < n; k++) {
            x.item(sheet, 2, k, 1 << k);
        }
    }

    private static void mixes(NewsCow x, String call, int sheet, int... wants) {
        for (int k = 0; k < wants.length; k++) {
            due(call + ", item " + k, mixAt(x, sheet, 2, k), wants[k]);
        }
    }

    private static void copy() {
        NewsCow x = eight();
        powers(x, 0, 6);
        due("35: rising", x.copy(0, 0, 0, 2, 4), 4);
        mixes(x, "35: rising", 0, 1, 2, 1, 2, 4, 8);
        powers(x, 0, 6);
        due("35: falling", x.copy(0, 2, 0, 0, 4), 4);
        mixes(x, "35: falling", 0, 4, 8, 16, 32, 16, 32);
        powers(x, 0, 6);
        due("35: in place", x.copy(0, 0, 0, 0, 6), 6);
        mixes(x, "35: in place", 0, 1, 2, 4, 8, 16, 32);
    }

    private static void copyOfParts() {
        NewsCow x = eight();
        powers(x, 0, 6);
        powers(x, 1, 4);
        due("35: to another", x.copy(0, 4, 1, 1, 2), 2);
        mixes(x, "35: to another", 1, 1, 16, 32, 8);
        mixes(x, "35: from it", 0, 1, 2, 4, 8, 16, 32);
        due("35: none", x.copy(0, 6, 1, 4, 0), 0);
        due("35: all", x.copy(1, 0, 0, 2, 4), 4);
        mixes(x, "35: all", 0, 1, 2, 1, 16, 32, 8);
    }

    private static void copyRefused() {
        NewsCow x = eight();
        powers(x, 0, 6);
        powers(x, 1, 4);
        x.sheet(2, 3, 4);
        due("35: BAD", x.copy(4, 0, 0, 0, 1), NewsCow.BAD);
        due("35: BAD", x.copy(-1, 0, 0, 0, 1), NewsCow.BAD);
        due("35: BAD ahead of NULL", x.copy(3, 0, 4, 0, 1), NewsCow.BAD);
        due("35: BAD", x.copy(0, 0, -1, 0, 1), NewsCow.BAD);
        due("35: NULL, from", x.copy(3, 0, 0, 0, 1), NewsCow.NULL);
        due("35: NULL, to", x.copy(0, 0, 3, 0, 1), NewsCow.NULL);
        due("35: NULL ahead of INDEX", x.copy(0, 9, 3, 0, -1), NewsCow.NULL);
        due("35: CAST", x.copy(0, 0, 2, 0, 1), NewsCow.CAST);
        due("35: CAST ahead of INDEX", x.copy(2, -1, 0, 9, -1), NewsCow.CAST);
        due("35: INDEX, from", x.copy(0, 5, 1, 0, 2), NewsCow.INDEX);
        due("35: INDEX, to", x.copy(0, 0, 1, 3, 2), NewsCow.INDEX);
        due("35: INDEX, i", x.copy(0, -1, 1, 0, 2), NewsCow.INDEX);
        due("35: INDEX, j", x.copy(0, 0, 1, -1, 2), NewsCow.INDEX);
        due("35: INDEX, n", x.copy(0, 0, 1, 0, -1), NewsCow.INDEX);
        due("35: INDEX, n", x.copy(0, 0, 1, 0, 5), NewsCow.INDEX);
        due("35: INDEX, none past the end", x.copy(0, 7, 1, 0, 0), NewsCow.INDEX);
        due("35: INDEX, MAX", x.copy(0, 1, 1, 0, MAX), NewsCow.INDEX);
        due("35: INDEX, MAX", x.copy(0, MAX, 1, 0, 2), NewsCow.INDEX);
        due("35: INDEX, MAX", x.copy(0, 0, 1, MAX, 2), NewsCow.INDEX);
        due("35: INDEX, MIN", x.copy(0, 0, 1, 0, MIN), NewsCow.INDEX);
        mixes(x, "35: refused changes nothing", 1, 1, 2, 4, 8);
    }

    private static void fitsAndLies() {
        NewsCow x = Check.of("11111111;p1");
        x.sheet(0, 2, 12);
        Check.items(x, 0, 2, 15, 1, 51, 1, 85, 0, 1, 0, 2, 1, 4, 0);
        due("29: one pair", x.fits(0, 0, 2, 0, 1, 0), 15);
        due("29: two", x.fits(0, 0, 2, 0, 2, 0), 3);
        due("29: three", x.fits(0, 0, 2, 0, 3, 0), 2);
        due("29: six", x.fits(0, 0, 2, 0, 6, 0), 2);
        due("29: from item 2 on", x.fits(0, 0, 2, 2, 2, 0), 0b100010);
        due("29: lies, one pair", x.fits(0, 0, 2, 0, 1, 1), 255);
        due("29: lies, two", x.fits(0, 0, 2, 0, 2, 1), 0b111111);
        // wrong by 0: the third, the fourth, the fifth; by 3: the second, the fifth; by 1: none
        due("29: lies, three", x.fits(0, 0, 2, 0, 3, 1), 0b101011);
        due("29: lies, six", x.fits(0, 0, 2, 0, 6, 1), 2);
        Check.items(x, 0, 2, 3, 1, 4, 1);
        due("29: none fits", x.fits(0, 0, 2, 0, 2, 0), 0);
        due("29: but for a lie", x.fits(0, 0, 2, 0, 2, 1), 7);
        Check.items(x, 0, 2, 1, 1, 2, 1, 4, 1);
        due("29: but for two", x.fits(0, 0, 2, 0, 3, 1), 0);
    }

    private static void tastes() {
        NewsCow x = Check.of("1139;p2,f1,s3,d9");
        x.sheet(0, 2, 4);
        Check.items(x, 0, 2, 7, 1, 8, 1);
        // plain: none has both; fanciful by 2: 7 is of more than 2, so 8 alone tells: cow 3
        due("29: kinds", x.fits(0, 0, 2, 0, 2, 2), 0b10100);
        due("29: fines of plain", x.fits(0, 0, 2, 0, 2, 3), 0);
        due("29: fines of fanciful", x.fits(1, 0, 2, 0, 2, 3), 0b110);
        Check.items(x, 0, 2, 7, 1, 1, 0);
        // dull by 3: 3 * 3 of 5; by 2 as well; by 1 not
        due("29: fines of dull", x.fits(3, 0, 2, 0, 2, 3), 0b1111111100);
        due("29: fines of sleepy on day 0", x.fits(2, 0, 2, 0, 2, 3), 0);
        due("29: kinds of fine 3 on day 0", x.fits(2, 0, 2, 0, 2, 2), 0b10111);
        due("29: kinds of fine 1 on day 0", x.fits(1, 0, 2, 0, 2, 2), 0b10101);
        x.answer(0, 15, 1);
        due("29: fines of sleepy on day 1", x.fits(2, 0, 2, 0, 2, 3), 0b1111111100);
        due("29: kinds of fine 3 on day 1", x.fits(2, 0, 2, 0, 2, 2), 0b01111);
        Check.items(x, 0, 2, 15, 0, 15, 0);
        due("29: fines of all, sleepy", x.fits(2, 0, 2, 0, 2, 3), 0b1111111110);
        due("29: kinds, poet on day 1", x.fits(1, 0, 2, 0, 2, 2), 0b11010);
    }

    private static void fitsOfAllCows() {
        NewsCow x = Check.of("111;p1");
        x.answer(0, 1, 1);
        x.sheet(0, 2, 2);
        Check.items(x, 0, 2, 1, 0);
        due("29: of all that there are", x.fits(0, 0, 2, 0, 1, 0), 6);
        due("29: lies, of all", x.fits(0, 0, 2, 0, 1, 1), 7);
        due("29: kinds", x.fits(0, 0, 2, 0, 1, 2) & 1, 1);
        due("29: nothing changes", x.count(3), 1);
        due("29: nothing changes", x.count(2), 1);
    }

    private static void fitsRefused() {
        NewsCow x = eight();
        x.sheet(0, 2, 12);
        due("29: BAD, taster", x.fits(4, 0, 2, 0, 1, 0), NewsCow.BAD);
        due("29: BAD, taster", x.fits(-1, 0, 2, 0, 1, 0), NewsCow.BAD);
        due("29: BAD, sheet", x.fits(0, 4, 2, 0, 1, 0), NewsCow.BAD);
        due("29: BAD, sheet", x.fits(0, -1, 2, 0, 1, 0), NewsCow.BAD);
        due("29: BAD, lane", x.fits(0, 0, 4, 0, 1, 0), NewsCow.BAD);
        due("29: BAD, lane", x.fits(0, 0, -1, 0, 1, 0), NewsCow.BAD);
        due("29: BAD, n", x.fits(0, 1, 2, 0, 0, 0), NewsCow.BAD);
        due("29: BAD, n", x.fits(0, 1, 2, 0, 7, 0), NewsCow.BAD);
        due("29: BAD, what", x.fits(0, 1, 2, 0, 1, 4), NewsCow.BAD);
        due("29: BAD, what", x.fits(0, 1, 2, 0, 1, -1), NewsCow.BAD);
        due("29: NULL", x.fits(0, 1, 2, 0, 1, 0), NewsCow.NULL);
        due("29: CAST", x.fits(0, 0, 3, 0, 1, 0), NewsCow.CAST);
        due("29: CAST ahead of INDEX", x.fits(0, 0, 3, 20, 1, 0), NewsCow.CAST);
        due("29: INDEX", x.fits(0, 0, 2, 1, 6, 0), NewsCow.INDEX);
        due("29: INDEX", x.fits(0, 0, 2, 11, 1, 0), NewsCow.INDEX);
        due("29: INDEX", x.fits(0, 0, 2, -1, 1, 0), NewsCow.INDEX);
        due("29: INDEX", x.fits(0, 0, 2, MAX, 1, 0), NewsCow.INDEX);
        due("29: INDEX", x.fits(0, 0, 2, MIN, 1, 0), NewsCow.INDEX);
        due("29: NOT behind INDEX", x.fits(0, 0, 2, 0, 6, 0), NewsCow.NOT);
    }

    private static void fitsNot() {
        NewsCow x = Check.of("123;p1");
        x.sheet(0, 3, 4);
        long[][] rows = {{0, 1}, {8, 1}, {-1, 1}, {1, 2}, {1, -1}, {1L << 32 | 1, 1}, {1, 1L << 32}};
        for (long[] row : rows) {
            for (int what = 0; what < 4; what++) {
                Check.items(x, 0, 3, row[0], row[1], 1, 1);
                due("29: NOT", x.fits(0, 0, 3, 0, 2, what), NewsCow.NOT);
                Check.items(x, 0, 3, 1, 1, row[0], row[1]);
                due("29: NOT, behind", x.fits(0, 0, 3, 0, 2, what), NewsCow.NOT);
                due("29: not of the row", x.fits(0, 0, 3, 0, 1, what) >= 0 ? 1 : 0, 1);
            }
            due("30: NOT", x.slips(0, 0, 1, 0, 3, 0, 2, 0), NewsCow.NOT);
        }
        Check.items(x, 0, 3, 7, 0, 7, 1);
        due("29: the last mix", x.fits(0, 0, 3, 0, 2, 0), 0);
    }

    /** Each lane holds its own lowest bits. */
    private static void rowsOfLanes() {
        NewsCow x = eight();
        long[] values = {0x100000000L + 3, 0x10000L + 3, 0x100L + 3, 200};
        int[][] wants = {
            {3, 3, 3, NewsCow.NOT},
            {3, 3, NewsCow.NOT, 200},
            {3, NewsCow.NOT, NewsCow.NOT, 200},
            {NewsCow.NOT, NewsCow.NOT, NewsCow.NOT, 200}};
        for (int lane = 0; lane < 4; lane++) {
            for (int k = 0; k < values.length; k++) {
                x.sheet(0, lane, 2);
                Check.items(x, 0, lane, values[k], 1);
                due("34: lane " + lane + ", " + values[k], x.fits(0, 0, lane, 0, 1, 0), wants[lane][k]);
            }
        }
    }

    private static void fraction(NewsCow x, String call, int cow, int c, int n, long above, long below) {
        due(call + ", above", x.slips(cow, 0, c, 0, 2, 0, n, 0), above);
        due(call + ", below", x.slips(cow, 0, c, 0, 2, 0, n, 1), below);
    }

    private static void slips() {
        NewsCow x = Check.of("12;p1");
        x.sheet(0, 2, 12);
        Check.items(x, 0, 2, 1, 1, 2, 1, 3, 1, 1, 1, 1, 1, 1, 1);
        fraction(x, "30: never slips", 0, 0, 1, 1, 1);
        fraction(x, "30: never slips", 1, 0, 1, 0, 1);
        fraction(x, "30: the row could not be told", 0, 0, 2, 0, 1);
        fraction(x, "30: ever slips", 0, 10, 1, 0, 1);
        fraction(x, "30: ever slips", 1, 10, 1, 1, 1);
        fraction(x, "30: ever slips, not to be told", 1, 10, 3, 0, 1);
        fraction(x, "30: half", 0, 5, 1, 1, 3);
        fraction(x, "30: half", 1, 5, 6, 2, 3);
        // 1 * 7 of 1 * 7 and 2 * 3
        fraction(x, "30: 3 of 10", 0, 3, 1, 7, 13);
        // 1 * 7 * 3 of that and 2 * 3 * 7
        fraction(x, "30: 3 of 10, two", 0, 3, 2, 1, 3);
        // 7 ^ 5 * 3 of that and 2 * 3 ^ 4 * 7 ^ 2, by 3 * 7 ^ 2: 343 and 54
        fraction(x, "30: 3 of 10, six", 0, 3, 6, 343, 397);
        fraction(x, "30: 9 of 10", 1, 9, 1, 18, 19);
        x = Check.of("9;p1");
        x.sheet(0, 2, 12);
        Check.items(x, 0, 2, 1, 1, 1, 1, 1, 1, 1, 1, 1, 1, 1, 1);
        fraction(x, "30: one cow", 0, 1, 6, 1, 1);
    }

    private static void slipsOfMayBe() {
        NewsCow x = Check.of("123;p1");
        x.answer(0, 6, 1);
        x.sheet(0, 2, 2);
        Check.items(x, 0, 2, 2, 1);
        fraction(x, "30: of those that it may be", 1, 1, 1, 6, 7);
        fraction(x, "30: she may not be", 0, 1, 1, 0, 1);
        due("30: nothing changes", x.count(3), 6);
        due("30: nothing changes", x.count(2), 1);
        x.answer(0, 1, 1);
        fraction(x, "30: it may be none", 1, 1, 1, 0, 1);
        x = Check.of("123;o1");
        x.sheet(0, 2, 2);
        Check.items(x, 0, 2, 1, 1);
        fraction(x, "30: on this day, even", 0, 0, 1, 1, 1);
        x.answer(0, 7, 1);
        fraction(x, "30: on this day, odd", 1, 0, 1, 2, 5);
    }

    private static void slipsRefused() {
        NewsCow x = eight();
        x.sheet(0, 2, 12);
        due("30: BAD, cow", x.slips(8, 0, 1, 0, 2, 0, 1, 0), NewsCow.BAD);
        due("30: BAD, cow", x.slips(-1, 0, 1, 0, 2, 0, 1, 0), NewsCow.BAD);
        due("30: BAD, taster", x.slips(0, 4, 1, 0, 2, 0, 1, 0), NewsCow.BAD);
        due("30: BAD, taster", x.slips(0, -1, 1, 0, 2, 0, 1, 0), NewsCow.BAD);
        due("30: BAD, c", x.slips(0, 0, 11, 0, 2, 0, 1, 0), NewsCow.BAD);
        due("30: BAD, c", x.slips(0, 0, -1, 0, 2, 0, 1, 0), NewsCow.BAD);
        due("30: BAD, sheet", x.slips(0, 0, 1, 4, 2, 0, 1, 0), NewsCow.BAD);
        due("30: BAD, lane", x.slips(0, 0, 1, 0, 4, 0, 1, 0), NewsCow.BAD);
        due("30: BAD, n", x.slips(0, 0, 1, 1, 2, 0, 0, 0), NewsCow.BAD);
        due("30: BAD, n", x.slips(0, 0, 1, 1, 2, 0, 7, 0), NewsCow.BAD);
        due("30: BAD, what", x.slips(0, 0, 1, 1, 2, 0, 1, 2), NewsCow.BAD);
        due("30: BAD, what", x.slips(0, 0, 1, 1, 2, 0, 1, -1), NewsCow.BAD);
        due("30: NULL", x.slips(0, 0, 1, 1, 2, 0, 1, 0), NewsCow.NULL);
        due("30: CAST", x.slips(0, 0, 1, 0, 1, 99, 1, 0), NewsCow.CAST);
        due("30: INDEX", x.slips(0, 0, 1, 0, 2, 1, 6, 0), NewsCow.INDEX);
        due("30: INDEX", x.slips(0, 0, 1, 0, 2, -1, 1, 0), NewsCow.INDEX);
        due("30: INDEX", x.slips(0, 0, 1, 0, 2, MAX, 1, 0), NewsCow.INDEX);
        due("30: NOT", x.slips(0, 0, 1, 0, 2, 0, 6, 0), NewsCow.NOT);
    }

    private static void film() {
        NewsCow x = eight();
        for (int taster = 0; taster < 4; taster++) {
            x = eight();
            x.answer(0, 0b111, 1);
            x.sheet(0, 2, 24);
            due("31: film", x.film(taster, 24, 0, 2, 0), 24);
            for (int mix = 1; mix <= 24; mix++) {
                int want = x.tells(taster, mix);
                due("31: taster " + taster + ", mix " + mix, mixAt(x, 0, 2, mix - 1), want == 0 ? NewsCow.NOT : want);
            }
        }
        powers(x, 0, 6);
        due("31: from item 2 on", x.film(0, 3, 0, 2, 2), 3);
        mixes(x, "31: from item 2 on", 0, 1, 2, 1, 2, 3, 32);
        due("31: nothing else changes", x.count(3), 7);
        due("31: nothing else changes", x.count(2), 1);
    }

    private static void filmOfLanes() {
        for (int lane = 0; lane < 4; lane++) {
            NewsCow x = eight();
            x.sheet(0, lane, 8);
            due("31: film", x.film(2, 8, 0, lane, 0), 8);
            due("31: plain ones", mixAt(x, 0, lane, 4), 5);
            // of three cows with a fanciful one by two: 255, for bytes -1
            due("31: lane " + lane, mixAt(x, 0, lane, 6), lane == 0 ? NewsCow.NOT : 255);
        }
    }

    private static void filmRefused() {
        NewsCow x = eight();
        powers(x, 0, 6);
        due("31: BAD, taster", x.film(4, 1, 0, 2, 0), NewsCow.BAD);
        due("31: BAD, taster", x.film(-1, 1, 0, 2, 0), NewsCow.BAD);
        due("31: BAD, n", x.film(0, 0, 1, 2, 0), NewsCow.BAD);
        due("31: BAD, n", x.film(0, 25, 1, 2, 0), NewsCow.BAD);
        due("31: BAD, n", x.film(0, -1, 1, 2, 0), NewsCow.BAD);
        due("31: BAD, sheet", x.film(0, 1, 4, 2, 0), NewsCow.BAD);
        due("31: BAD, sheet", x.film(0, 1, -1, 2, 0), NewsCow.BAD);
        due("31: BAD, lane", x.film(0, 1, 1, 4, 0), NewsCow.BAD);
        due("31: BAD, lane", x.film(0, 1, 1, -1, 0), NewsCow.BAD);
        due("31: NULL", x.film(0, 1, 1, 2, 0), NewsCow.NULL);
        due("31: CAST", x.film(0, 1, 0, 3, 9), NewsCow.CAST);
        due("31: INDEX", x.film(0, 4, 0, 2, 3), NewsCow.INDEX);
        due("31: INDEX", x.film(0, 1, 0, 2, -1), NewsCow.INDEX);
        due("31: INDEX", x.film(0, 1, 0, 2, MAX), NewsCow.INDEX);
        mixes(x, "31: refused changes nothing", 0, 1, 2, 4, 8, 16, 32);
        due("31: to the end", x.film(0, 3, 0, 2, 3), 3);
        Check.herd(x, "123;p1");
        due("31: such a mix is none", x.film(0, 8, 1, 2, 0), NewsCow.BAD);
        due("31: the last mix", x.film(0, 7, 1, 2, 0), NewsCow.NULL);
        x.sheet(1, 0, 7);
        due("31: the last mix", x.film(0, 7, 1, 0, 0), 7);
    }
}
