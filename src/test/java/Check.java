/** Counts the calls whose answer is not the one that is due, and tells them. */
final class Check {
    private final String name;
    private int asked = 0;
    private int wrong = 0;

    Check(String name) {
        this.name = name;
    }

    void due(String call, long got, long want) {
        asked++;
        if (got != want) {
            wrong++;
            System.out.println(name + ": " + call + " answered " + got + ", due is " + want);
        }
    }

    void holds(String what, boolean is) {
        due(what, is ? 1 : 0, 1);
    }

    void end() {
        System.out.println(name + ": " + asked + " answers, " + wrong + " of them not as due");
        if (wrong != 0) {
            System.exit(1);
        }
    }

    static void type(NewsCow x, String text) {
        for (int k = 0; k < text.length(); k++) {
            x.type(text.charAt(k));
        }
    }

    static int herd(NewsCow x, String text) {
        type(x, text);
        return x.herd();
    }

    static NewsCow of(String text) {
        NewsCow x = new NewsCow();
        int cows = herd(x, text);
        if (cows < 1) {
            throw new IllegalArgumentException(text + ": " + cows);
        }
        return x;
    }

    /** A herd, and sheet 0 with a row of ints. */
    static NewsCow row(String text, long... items) {
        NewsCow x = of(text);
        x.sheet(0, 2, items.length);
        items(x, 0, 2, items);
        return x;
    }

    /** The set of cows of whom he notices it in a mix, by one call each. */
    static int noticing(NewsCow x, int taster, int mix) {
        int set = 0;
        for (int c = 0; c < x.count(0); c++) {
            set |= x.notices(taster, mix, c) << c;
        }
        return set;
    }

    static void items(NewsCow x, int sheet, int lane, long... values) {
        for (int k = 0; k < values.length; k++) {
            if (x.item(sheet, lane, k, values[k]) != 1) {
                throw new IllegalArgumentException("item " + k);
            }
        }
    }
}
