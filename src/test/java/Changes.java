/** Promises of calls that change something: what each of them says that it changes, and nothing else. */
final class Changes {
    private Changes() {
    }

    /** Something in every place, and another thing in the image: no part is as a call would leave it. */
    private static NewsCow made() {
        NewsCow x = Check.of("12!3;p1,o3");
        Edges.fillSheets(x);
        x.sheet(2, 2, 4);
        x.seed(99);
        x.image();
        x.taster(2, 2);
        x.milk(2, 5);
        x.bear(0);
        x.answer(0, 7, 1);
        x.answer(0, 3, 1);
        x.seed(5);
        Check.type(x, "456!;s7");
        return x;
    }

    static void promise02ACow() {
        Edges.changes("cow(4)", Changes::made, 3, x -> x.cow(4), "cows", "may be", "past");
    }

    static void promise03ATaster() {
        Edges.changes("taster(1, 2)", Changes::made, 3, x -> x.taster(1, 2), "tasters", "past");
    }

    static void promise04Milk() {
        Edges.changes("milk(2, 9)", Changes::made, 5, x -> x.milk(2, 9), "cows");
        Edges.changes("milk(2, 5)", Changes::made, 5, x -> x.milk(2, 5));
    }

    static void promise08ALetter() {
        Edges.changes("type('9')", Changes::made, 8, x -> x.type('9'), "tape");
    }

    static void promise09AHerd() {
        Edges.changes("herd()", Changes::made, 3, x -> x.herd(), "cows", "tasters", "day", "may be", "bearer", "past", "tape");
        Edges.changes("a fault", Changes::made, -27, x -> x.type('!') < 0 ? 0 : x.herd(), "tape");
    }

    static void promise11AnAnswer() {
        Edges.changes("answer(0, 1, 1)", Changes::made, 1, x -> x.answer(0, 1, 1), "day", "may be", "past");
        Edges.changes("answer(0, 3, 1)", Changes::made, 3, x -> x.answer(0, 3, 1), "day", "past");
    }

    static void promise12ADrink() {
        Edges.changes("drink(0, 1)", Changes::made, 1, x -> x.drink(0, 1), "day", "may be", "past");
        Edges.changes("drink(0, 4)", Changes::made, 0, x -> x.drink(0, 4), "day", "past");
    }

    static void promise13Forgotten() {
        Edges.changes("forget()", Changes::made, 3, x -> x.forget(), "may be", "past");
    }

    static void promise14TheBearer() {
        Edges.changes("bear(2)", Changes::made, 0, x -> x.bear(2), "bearer", "past");
        Edges.changes("bear(NONE)", Changes::made, 0, x -> x.bear(NewsCow.NONE), "bearer", "past");
    }

    static void promise15ADrift() {
        // 1222621274 by 65536 is 18655, by 3 leaves 1: the poet; by 128 is 9551728, by 8 leaves 0: no mix
        Edges.changes("drift(1)", Changes::made, 3, x -> x.drift(1), "draw", "past");
        Edges.changes("drift(40)", Changes::made, 1, x -> x.drift(40), "day", "may be", "draw", "past");
    }

    static void promise16Undone() {
        Edges.changes("undo()", Changes::made, 2, x -> x.undo(), "day", "may be", "draw", "past");
        Edges.changes("undo() of a bearer", () -> {
            NewsCow x = made();
            x.bear(2);
            return x;
        }, 3, x -> x.undo(), "bearer", "past");
    }

    static void promise17TheDraw() {
        Edges.changes("seed(6)", Changes::made, 5, x -> x.seed(6), "draw");
    }

    static void promise27AnImage() {
        Edges.changes("image()", Changes::made, 1, x -> x.image(), "image");
    }

    static void promise28AllButSheetsAndTheTape() {
        Edges.changes("restore()", Changes::made, 1, x -> x.restore(),
            "cows", "tasters", "day", "may be", "bearer", "draw", "past");
    }

    static void promise31AFilm() {
        Edges.changes("film(0, 3, 1, 2, 1)", Changes::made, 3, x -> x.film(0, 3, 1, 2, 1), "sheet 1");
        Edges.changes("film(0, 3, 2, 2, 0)", Changes::made, 3, x -> x.film(0, 3, 2, 2, 0), "sheet 2");
    }

    static void promise32ASheet() {
        Edges.changes("sheet(0, 1, 3)", Changes::made, 3, x -> x.sheet(0, 1, 3), "sheet 0");
        Edges.changes("sheet(1, 2, 12)", Changes::made, 12, x -> x.sheet(1, 2, 12), "sheet 1");
    }

    static void promise33ADrop() {
        Edges.changes("drop(3)", Changes::made, 0, x -> x.drop(3), "sheet 3");
        Edges.changes("drop(0)", Changes::made, 4, x -> x.drop(0), "sheet 0");
    }

    static void promise34AnItem() {
        Edges.changes("item(1, 2, 11, 7)", Changes::made, 1, x -> x.item(1, 2, 11, 7), "sheet 1");
        Edges.changes("item(0, 0, 3, 7)", Changes::made, 1, x -> x.item(0, 0, 3, 7), "sheet 0");
    }

    static void promise35ACopy() {
        Edges.changes("to another", Changes::made, 4, x -> x.copy(1, 0, 2, 0, 4), "sheet 2");
        Edges.changes("to the same", Changes::made, 3, x -> x.copy(1, 0, 1, 6, 3), "sheet 1");
    }
}
