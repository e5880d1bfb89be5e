import java.util.Random;

/** Random runs of calls, each answer held against the model's. */
public final class AgainstModelTest {
    private static final int RUNS = 4000;
    private static final int CALLS = 512;
    private static final int[] ODD = {
        -1, -2, -3, -4, -5, 8, 9, 10, 11, 24, 25, 40, 41, 255, 256, 9999,
        Integer.MAX_VALUE, Integer.MIN_VALUE, Integer.MAX_VALUE - 1, 1 << 16, 1 << 30};

    private final Random random;
    private final int oddness;
    private final int cheapness;
    private NewsCow x = new NewsCow();
    private Model m = new Model();
    private int calls = 0;

    private AgainstModelTest(long seed) {
        random = new Random(seed);
        oddness = new int[] {0, 1, 3, 15}[random.nextInt(4)];
        cheapness = random.nextInt(3);
    }

    public static void main(String[] args) {
        int asked = 0;
        for (int run = 0; run < RUNS; run++) {
            AgainstModelTest test = new AgainstModelTest(run);
            asked += test.play();
        }
        System.out.println("AgainstModelTest: " + asked + " answers as the model's");
    }

    private int play() {
        boolean isReady = random.nextInt(10) == 0;
        for (int k = 0; k < 8 && !isReady; k++) {
            text();
            isReady = m.count(0) > 0 && m.count(1) > 0;
        }
        while (calls < CALLS) {
            step();
        }
        return CALLS;
    }

    /** The first answer that differs ends the test: what follows it tells nothing. Later calls are free. */
    private void same(String call, long got, long want) {
        calls++;
        if (got != want && calls <= CALLS) {
            System.out.println("AgainstModelTest: call " + calls + ", " + call + " answered " + got + ", the model " + want);
            System.exit(1);
        }
    }

    private int among(int low, int high) {
        if (random.nextInt(100) < oddness) {
            return ODD[random.nextInt(ODD.length)];
        }
        return low + random.nextInt(high - low + 1);
    }

    private int cow() {
        return among(0, Math.max(0, m.count(0) - 1));
    }

    private int taster() {
        return among(0, Math.max(0, m.count(1) - 1));
    }

    private int mix() {
        return among(1, Math.max(1, (1 << m.count(0)) - 1));
    }

    private int either() {
        return among(0, 1);
    }

    private void text() {
        StringBuilder text = new StringBuilder();
        int cows = 1 + random.nextInt(random.nextInt(10) == 0 ? 9 : 8);
        int bearer = random.nextInt(2) == 0 ? -1 : random.nextInt(cows);
        for (int c = 0; c < cows; c++) {
            text.append((char) ('1' + random.nextInt(random.nextBoolean() ? 9 : 3)));
            if (c == bearer) {
                text.append('!');
            }
        }
        int tasters = random.nextInt(8) == 0 ? 0 : 1 + random.nextInt(random.nextInt(8) == 0 ? 5 : 4);
        for (int t = 0; t < tasters; t++) {
            text.append(t == 0 ? ';' : ',').append("pdfso".charAt(random.nextInt(5))).append((char) ('1' + random.nextInt(9)));
        }
        for (int k = random.nextInt(4) == 0 ? 3 : 0; k > 0; k--) {
            text.insert(random.nextInt(text.length() + 1), ' ');
        }
        int spoils = random.nextInt(3) == 0 ? 1 + random.nextInt(2) : 0;
        for (int k = 0; k < spoils && text.length() > 0; k++) {
            spoil(text);
        }
        for (int k = 0; k < text.length(); k++) {
            type(text.charAt(k));
        }
        same("herd() of '" + text + "'", x.herd(), m.herd());
        for (int what = 0; what < 8; what++) {
            same("count(" + what + ") behind '" + text + "'", x.count(what), m.count(what));
        }
    }

    private void spoil(StringBuilder text) {
        String letters = " 0123456789!;,pdfsoxP";
        int place = random.nextInt(text.length());
        char letter = letters.charAt(random.nextInt(letters.length()));
        switch (random.nextInt(4)) {
            case 0 -> text.setCharAt(place, letter);
            case 1 -> text.insert(place, letter);
            case 2 -> text.deleteCharAt(place);
            default -> text.setLength(place);
        }
    }

    private void type(int letter) {
        same("type(" + letter + ")", x.type(letter), m.type(letter));
    }

    private void step() {
        int kind = random.nextInt(100);
        if (kind < 5) {
            making();
        } else if (kind < 35) {
            doing();
        } else if (kind < 80) {
            foretelling();
        } else {
            sheets();
        }
    }

    private void making() {
        int a = cow();
        int v = among(1, 9);
        int t = taster();
        int k = among(0, 4);
        switch (random.nextInt(12)) {
            case 0 -> same("cow", x.cow(v), m.cow(v));
            case 1 -> same("taster", x.taster(k, v), m.taster(k, v));
            case 2 -> same("milk", x.milk(a, v), m.milk(a, v));
            case 3 -> text();
            case 4 -> type(among(32, 126));
            case 5 -> same("herd", x.herd(), m.herd());
            case 6 -> same("image", x.image(), m.image());
            case 7 -> same("restore", x.restore(), m.restore());
            case 8 -> same("of", x.of(a), m.of(a));
            case 9 -> same("at", x.at(t, v % 2), m.at(t, v % 2));
            case 10 -> same("at", x.at(t, v), m.at(t, v));
            default -> same("milk", x.milk(a, v), m.milk(a, v));
        }
    }

    private void doing() {
        int t = taster();
        int mix = mix();
        int c = cow();
        int e = either();
        int n = random.nextInt(4) == 0 ? among(1, 40) : among(1, 3);
        int s = random.nextInt(5) == 0 ? among(0, 9) : random.nextInt();
        switch (random.nextInt(10)) {
            case 0, 1 -> answer(t, mix, e);
            case 2 -> same("drink", x.drink(t, mix), m.drink(t, mix));
            case 3 -> same("forget", x.forget(), m.forget());
            case 4 -> same("bear", x.bear(c), m.bear(c));
            case 5 -> same("bear", x.bear(e == 0 ? NewsCow.NONE : c), m.bear(e == 0 ? NewsCow.NONE : c));
            case 6 -> same("drift", x.drift(n), m.drift(n));
            case 7, 8 -> same("undo", x.undo(), m.undo());
            default -> same("seed", x.seed(s), m.seed(s));
        }
        int what = among(0, 7);
        same("count", x.count(what), m.count(what));
    }

    /** Most of the time as some cow would have it, so that it may be one still. */
    private void answer(int t, int mix, int e) {
        int told = m.tells(t, mix);
        int is = random.nextInt(5) == 0 ? e : told == 0 ? 0 : told == m.count(3) ? 1 : e;
        same("answer", x.answer(t, mix, is), m.answer(t, mix, is));
    }

    private void foretelling() {
        int t = taster();
        int mix = mix();
        int c = cow();
        int e = either();
        int k = among(-2, 3);
        int place = among(-2, 8);
        int dear = random.nextInt(3) < cheapness ? 6 : 0;
        switch (dear + random.nextInt(13 - dear)) {
            case 0 -> same("fewest", x.fewest(t), m.fewest(t));
            case 1 -> same("next", x.next(t), m.next(t));
            case 2, 3 -> same("once", x.once(t, k), m.once(t, k));
            case 4, 5 -> same("halves", x.halves(t, e), m.halves(t, e));
            case 6 -> same("likely", x.likely(c, e), m.likely(c, e));
            case 7 -> same("noticed", x.noticed(t, mix, e), m.noticed(t, mix, e));
            case 8, 9 -> same("single", x.single(place), m.single(place));
            case 10 -> same("share", x.share(c, mix, e), m.share(c, mix, e));
            case 11 -> same("tells", x.tells(t, mix), m.tells(t, mix));
            default -> same("notices", x.notices(t, mix, c), m.notices(t, mix, c));
        }
    }

    private void sheets() {
        int sheet = among(0, 3);
        int lane = random.nextInt(5) == 0 ? among(0, 3) : sheet;
        int n = among(0, 24);
        int i = random.nextInt(4) == 0 ? among(-1, 24) : among(0, 6);
        int j = random.nextInt(4) == 0 ? among(-1, 24) : among(0, 6);
        int to = random.nextInt(3) == 0 ? among(0, 3) : sheet;
        switch (random.nextInt(10)) {
            case 0 -> same("sheet", x.sheet(sheet, lane, n), m.sheet(sheet, lane, n));
            case 1 -> same("drop", x.drop(sheet), m.drop(sheet));
            case 2, 3 -> item(sheet, lane, i);
            case 4 -> same("copy", x.copy(sheet, i, to, j, n), m.copy(sheet, i, to, j, n));
            case 5 -> film(sheet, lane, i);
            default -> row(sheet, lane, i);
        }
    }

    private void item(int sheet, int lane, int i) {
        long v = switch (random.nextInt(6)) {
            case 0 -> random.nextLong();
            case 1 -> random.nextInt();
            case 2 -> among(0, 1);
            default -> mix();
        };
        same("item", x.item(sheet, lane, i, v), m.item(sheet, lane, i, v));
    }

    private void film(int sheet, int lane, int i) {
        int t = taster();
        int n = among(1, 24);
        same("film", x.film(t, n, sheet, lane, i), m.film(t, n, sheet, lane, i));
    }

    /** Pairs are written ahead, most of the time, so that the rows tell something. */
    private void row(int sheet, int lane, int i) {
        int n = among(1, 6);
        if (random.nextInt(5) != 0) {
            same("sheet", x.sheet(sheet, lane, 24), m.sheet(sheet, lane, 24));
            for (int k = 0; k < n && k < 6; k++) {
                int mix = mix();
                int is = random.nextInt(30) == 0 ? 2 : random.nextInt(2);
                same("item", x.item(sheet, lane, i + 2 * k, mix), m.item(sheet, lane, i + 2 * k, mix));
                same("item", x.item(sheet, lane, i + 2 * k + 1, is), m.item(sheet, lane, i + 2 * k + 1, is));
            }
        }
        int t = taster();
        int c = cow();
        int slip = among(0, 10);
        for (int k = 0; k < 4; k++) {
            int what = among(0, 3);
            int part = among(0, 1);
            same("fits", x.fits(t, sheet, lane, i, n, what), m.fits(t, sheet, lane, i, n, what));
            same("slips", x.slips(c, t, slip, sheet, lane, i, n, part), m.slips(c, t, slip, sheet, lane, i, n, part));
        }
    }
}
