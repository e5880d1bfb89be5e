import java.util.ArrayList;
import java.util.List;
import java.util.function.Supplier;

/** All that later calls could show of an object, so that two can be held against each other. */
final class Look {
    interface Call {
        long on(NewsCow x);
    }

    private interface Part {
        void see(NewsCow x, List<Long> seen);
    }

    private static final Part[] PARTS = {
        Look::cows, Look::tasters,
        (x, seen) -> seen.add((long) x.count(2)),
        Look::mayBe,
        (x, seen) -> seen.add((long) x.count(4)),
        (x, seen) -> seen.add((long) x.seed(0)),
        Look::past, Look::tape, Look::image,
        (x, seen) -> sheet(x, 0, seen), (x, seen) -> sheet(x, 1, seen),
        (x, seen) -> sheet(x, 2, seen), (x, seen) -> sheet(x, 3, seen)};
    private static final String[] NAMES = {
        "cows", "tasters", "day", "may be", "bearer", "draw", "past", "tape", "image", "sheet 0", "sheet 1", "sheet 2", "sheet 3"};

    /** Which parts are not the same behind a call as without it, in the order above. */
    static List<String> changedBy(Supplier<NewsCow> made, Call call) {
        List<String> changed = new ArrayList<>();
        for (int k = 0; k < PARTS.length; k++) {
            // looking changes an object, so that each part is looked at on one made anew
            NewsCow with = made.get();
            call.on(with);
            if (!see(PARTS[k], with).equals(see(PARTS[k], made.get()))) {
                changed.add(NAMES[k]);
            }
        }
        return changed;
    }

    private static List<Long> see(Part part, NewsCow x) {
        List<Long> seen = new ArrayList<>();
        part.see(x, seen);
        return seen;
    }

    private static void cows(NewsCow x, List<Long> seen) {
        seen.add((long) x.count(0));
        seen.add((long) x.count(5));
        for (int c = 0; c < 8; c++) {
            seen.add((long) x.of(c));
        }
    }

    private static void tasters(NewsCow x, List<Long> seen) {
        seen.add((long) x.count(1));
        for (int t = 0; t < 4; t++) {
            seen.add((long) x.at(t, 0));
            seen.add((long) x.at(t, 1));
        }
    }

    private static void mayBe(NewsCow x, List<Long> seen) {
        seen.add((long) x.count(3));
        seen.add((long) x.count(6));
    }

    private static void herd(NewsCow x, List<Long> seen) {
        cows(x, seen);
        tasters(x, seen);
        mayBe(x, seen);
        seen.add((long) x.count(2));
        seen.add((long) x.count(4));
        seen.add((long) x.seed(0));
    }

    private static void past(NewsCow x, List<Long> seen) {
        seen.add((long) x.count(7));
        for (int k = 0; k < 9; k++) {
            seen.add((long) x.undo());
            for (int what = 2; what <= 4; what++) {
                seen.add((long) x.count(what));
            }
            seen.add((long) x.seed(0));
        }
    }

    private static void tape(NewsCow x, List<Long> seen) {
        seen.add((long) x.type(' '));
        seen.add((long) x.herd());
        // a herd leaves the draw, which is no part of the tape
        x.seed(0);
        herd(x, seen);
    }

    private static void image(NewsCow x, List<Long> seen) {
        seen.add((long) x.restore());
        herd(x, seen);
        x.restore();
        past(x, seen);
    }

    private static void sheet(NewsCow x, int sheet, List<Long> seen) {
        for (int lane = 0; lane < 4; lane++) {
            int answer = x.item(sheet, lane, -1, 0);
            seen.add((long) answer);
            if (answer == NewsCow.INDEX) {
                items(x, sheet, lane, seen);
            }
        }
        seen.add((long) x.drop(sheet));
    }

    /** A row shows an item as a mix, or as an answer: both, by a plain taster of eight cows. */
    private static void items(NewsCow x, int sheet, int lane, List<Long> seen) {
        x.herd();
        Check.herd(x, "11111111;p1");
        int pair = sheet == 0 ? 1 : 0;
        x.sheet(pair, lane, 2);
        for (int i = 0; i < 24; i++) {
            x.item(pair, lane, 1, 1);
            seen.add((long) x.copy(sheet, i, pair, 0, 1));
            seen.add((long) x.fits(0, pair, lane, 0, 1, 0));
            x.item(pair, lane, 0, 1);
            x.copy(sheet, i, pair, 1, 1);
            seen.add((long) x.fits(0, pair, lane, 0, 1, 0));
        }
    }
}
