import java.util.ArrayList;
import java.util.List;
import java.util.function.Supplier;

/** All that later calls could show of an object, so that two can be held against each other. */
final class Look {
    interface Call {
        long on(NewsCow x);
    }

    private interface Part {
        void see(NewsCow x, List<Long> seen);
    }

    private static final Part[] PARTS = {
        Look::herd, Look::past, Look::tape, Look::image,
        (x, seen) -> sheet(x, 0, seen), (x, seen) -> sheet(x, 1, seen),
        (x, seen) -> sheet(x, 2, seen), (x, seen) -> sheet(x, 3, seen)};
    private static final String[] NAMES = {
        "the herd", "what may be undone", "the tape", "the image", "sheet 0", "sheet 1", "sheet 2", "sheet 3"};

    /** Which part is not the same behind a call as without it; null: none. */
    static String changedBy(Supplier<NewsCow> made, Call call) {
        for (int k = 0; k < PARTS.length; k++) {
            // looking changes an object, so that each part is looked at on one made anew
            NewsCow with = made.get();
            call.on(with);
            if (!see(PARTS[k], with).equals(see(PARTS[k], made.get()))) {
                return NAMES[k];
            }
        }
        return null;
    }

    private static List<Long> see(Part part, NewsCow x) {
        List<Long> seen = new ArrayList<>();
        part.see(x, seen);
        return seen;
    }

    private static void herd(NewsCow x, List<Long> seen) {
        for (int what = 0; what < 8; what++) {
            seen.add((long) x.count(what));
        }
        for (int c = 0; c < 8; c++) {
            seen.add((long) x.of(c));
        }
        for (int t = 0; t < 4; t++) {
            seen.add((long) x.at(t, 0));
            seen.add((long) x.at(t, 1));
        }
        seen.add((long) x.seed(0));
    }

    private static void past(NewsCow x, List<Long> seen) {
        for (int k = 0; k < 9; k++) {
            seen.add((long) x.undo());
            for (int what = 2; what <= 4; what++) {
                seen.add((long) x.count(what));
            }
            seen.add((long) x.seed(0));
        }
    }

    private static void tape(NewsCow x, List<Long> seen) {
        seen.add((long) x.type(' '));
        seen.add((long) x.herd());
        herd(x, seen);
    }

    private static void image(NewsCow x, List<Long> seen) {
        seen.add((long) x.restore());
        herd(x, seen);
        x.restore();
        past(x, seen);
    }

    private static void sheet(NewsCow x, int sheet, List<Long> seen) {
        for (int lane = 0; lane < 4; lane++) {
            int answer = x.item(sheet, lane, -1, 0);
            seen.add((long) answer);
            if (answer == NewsCow.INDEX) {
                items(x, sheet, lane, seen);
            }
        }
        seen.add((long) x.drop(sheet));
    }

    /** A row shows an item as a mix, or as an answer: both, by a plain taster of eight cows. */
    private static void items(NewsCow x, int sheet, int lane, List<Long> seen) {
        x.herd();
        Check.herd(x, "11111111;p1");
        int pair = sheet == 0 ? 1 : 0;
        x.sheet(pair, lane, 2);
        for (int i = 0; i < 24; i++) {
            x.item(pair, lane, 1, 1);
            seen.add((long) x.copy(sheet, i, pair, 0, 1));
            seen.add((long) x.fits(0, pair, lane, 0, 1, 0));
            x.item(pair, lane, 0, 1);
            x.copy(sheet, i, pair, 1, 1);
            seen.add((long) x.fits(0, pair, lane, 0, 1, 0));
        }
    }
}
