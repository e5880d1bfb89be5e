import java.lang.reflect.InvocationTargetException;
import java.lang.reflect.Method;
import java.util.Arrays;
import java.util.Comparator;
import java.util.List;
import java.util.function.Supplier;

/** Runs tests, each a method that is named by the number of its promise. */
final class Edges {
    static final int MAX = Integer.MAX_VALUE;
    static final int MIN = Integer.MIN_VALUE;
    static final int PROMISES = 35;

    private static final int[] testsOfPromise = new int[PROMISES + 1];
    private static String test = "";
    private static int tests = 0;
    private static int asked = 0;
    private static int wrong = 0;

    private Edges() {
    }

    static void run(Class<?> holder) {
        Method[] all = holder.getDeclaredMethods();
        Arrays.sort(all, Comparator.comparing(Method::getName));
        for (Method one : all) {
            if (one.getName().matches("promise\\d\\d[A-Z]\\w*")) {
                run(one);
            }
        }
    }

    private static void run(Method one) {
        test = one.getName();
        tests++;
        testsOfPromise[Integer.parseInt(test.substring(7, 9))]++;
        int before = asked;
        try {
            one.invoke(null);
        } catch (IllegalAccessException | InvocationTargetException thrown) {
            fail("ended by " + (thrown.getCause() == null ? thrown : thrown.getCause()));
        }
        if (asked == before) {
            fail("asks for nothing");
        }
    }

    static void end(String name) {
        for (int promise = 1; promise <= PROMISES; promise++) {
            if (testsOfPromise[promise] == 0) {
                fail("promise " + promise, "has no test");
            }
        }
        System.out.println(name + ": " + tests + " tests, " + asked + " answers, " + wrong + " of them not as due");
        if (wrong != 0) {
            System.exit(1);
        }
    }

    private static void fail(String why) {
        fail(test, why);
    }

    static void fail(String where, String why) {
        asked++;
        wrong++;
        System.out.println(where + ": " + why);
    }

    static void due(String call, long got, long want) {
        asked++;
        if (got != want) {
            wrong++;
            System.out.println(test + ": " + call + " answered " + got + ", due is " + want);
        }
    }

    /** The answer is due, and nothing is changed by the call, whatever is looked at. */
    static void refused(String name, Supplier<NewsCow> made, long want, Look.Call call) {
        changes(name, made, want, call);
    }

    /** The answer is due, and just these parts are not as they were. */
    static void changes(String name, Supplier<NewsCow> made, long want, Look.Call call, String... parts) {
        due(name, call.on(made.get()), want);
        asked++;
        List<String> changed = Look.changedBy(made, call);
        if (!changed.equals(List.of(parts))) {
            wrong++;
            System.out.println(test + ": " + name + " changed " + changed + ", due is " + List.of(parts));
        }
    }

    static void bad(String name, Supplier<NewsCow> made, Look.Call call) {
        refused(name, made, NewsCow.BAD, call);
    }

    /** For calls that foretell: whatever they answer, they change nothing. */
    static void changesNothing(String name, Supplier<NewsCow> made, Look.Call call) {
        refused(name, made, call.on(made.get()), call);
    }

    /** The numbers of a row of counts. */
    static void counts(NewsCow x, int... wants) {
        for (int what = 0; what < wants.length; what++) {
            due("count(" + what + ")", x.count(what), wants[what]);
        }
    }

    static void fraction(String name, long above, long below, long wantAbove, long wantBelow) {
        due(name + ", above", above, wantAbove);
        due(name + ", below", below, wantBelow);
    }

    // ---- objects to begin with

    /** Three cows, four tasters, day 4, and something in every place that a call could change. */
    static NewsCow rich() {
        NewsCow x = Check.of("12!3;p1,d2,f1,o3");
        fillSheets(x);
        x.seed(99);
        x.answer(0, 3, 1);
        x.image();
        doSome(x);
        Check.type(x, "4!5;s6");
        return x;
    }

    static void fillSheets(NewsCow x) {
        x.sheet(0, 0, 4);
        Check.items(x, 0, 0, 1, 1, 2, 0);
        x.sheet(1, 2, 12);
        Check.items(x, 1, 2, 1, 0, 2, 1, 3, 1, 4, 0, 5, 0, 6, 1);
        x.sheet(3, 3, 0);
    }

    /** Seven doings and more, so that eight are known, each with another draw. */
    private static void doSome(NewsCow x) {
        x.bear(2);
        x.seed(5);
        x.drink(3, 5);
        x.forget();
        x.drift(3);
        x.bear(0);
        x.seed(6);
        x.forget();
        x.answer(0, 6, 1);
        x.seed(7);
    }

    /** All eight cows and all four tasters, with a past. */
    static NewsCow full() {
        NewsCow x = Check.of("12345678!;p1,d9,f3,o2");
        fillSheets(x);
        x.answer(0, 15, 0);
        x.image();
        x.answer(1, 48, 1);
        x.bear(3);
        Check.type(x, "9");
        return x;
    }

    /** Eight cows of whom the last one bears it, on a day: some 280 calls at most, of an object's 512. */
    static NewsCow onDay(int day) {
        NewsCow x = Check.of("12345678!;p1,s9,o2,f9");
        for (int k = 0; k < day / 40; k++) {
            x.drift(40);
        }
        // now and then a draw leaves no mix, so that some days are wanting still
        for (int rest = day - x.count(2); rest > 0; rest = day - x.count(2)) {
            x.drift(Math.min(40, rest));
        }
        x.seed(1000 + day);
        return x;
    }
}
