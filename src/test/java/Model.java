import java.math.BigInteger;
import java.util.ArrayDeque;
import java.util.ArrayList;
import java.util.Deque;
import java.util.HashMap;
import java.util.List;
import java.util.Map;
import java.util.TreeSet;
import java.util.regex.Pattern;

/**
 * A second reading of the document, slow and by its words: one cow at a time, real arrays as
 * sheets, exact fractions, plain search. It shares no code with NewsCow.
 */
final class Model {
    static final int BAD = -1, NOT = -2, FULL = -3, NONE = -4, NULL = -11, CAST = -12, INDEX = -13, SIZE = -14;
    /** 1 to 8 digits, ! behind one of them at most; the first part looks ahead how many there are. */
    private static final Pattern HERD = Pattern.compile(
        "(?=([1-9]!?){1,8}(;|$))[1-9]+!?[1-9]*(;[pdfso][1-9](,[pdfso][1-9]){0,3})?");

    private record Taster(int kind, int fine) { }

    private record Moment(TreeSet<Integer> mayBe, int bearer, int day, long draw) { }

    private static final class State {
        List<Integer> milks = new ArrayList<>();
        List<Taster> tasters = new ArrayList<>();
        Moment now = new Moment(new TreeSet<>(), NONE, 0, 1);
        Deque<Moment> past = new ArrayDeque<>();

        State copy() {
            State other = new State();
            other.milks.addAll(milks);
            other.tasters.addAll(tasters);
            other.now = now;
            other.past.addAll(past);
            return other;
        }
    }

    private State s = new State();
    private State kept = null;
    private String tape = "";
    private final Object[] sheets = new Object[4];

    // ---- helpers

    private boolean noCow(int c) {
        return c < 0 || c >= s.milks.size();
    }

    private boolean noTaster(int t) {
        return t < 0 || t >= s.tasters.size();
    }

    private boolean noMix(long mix) {
        return mix <= 0 || mix >= Math.pow(2, s.milks.size());
    }

    private static List<Integer> members(int set) {
        List<Integer> list = new ArrayList<>();
        for (int c = 0; c < 8; c++) {
            if ((set & 1 << c) != 0) {
                list.add(c);
            }
        }
        return list;
    }

    private static int bits(Iterable<Integer> cows) {
        int set = 0;
        for (int c : cows) {
            set |= 1 << c;
        }
        return set;
    }

    private TreeSet<Integer> allCows() {
        TreeSet<Integer> all = new TreeSet<>();
        for (int c = 0; c < s.milks.size(); c++) {
            all.add(c);
        }
        return all;
    }

    private int milkSum(Iterable<Integer> cows) {
        int sum = 0;
        for (int c : cows) {
            sum += s.milks.get(c);
        }
        return sum;
    }

    private boolean senses(Taster t, int mix, int cow) {
        List<Integer> in = members(mix);
        boolean plain = in.contains(cow);
        boolean dull = plain && s.milks.get(cow) * t.fine() >= milkSum(in);
        boolean fanciful = plain || in.size() > t.fine();
        return switch (t.kind()) {
            case 0 -> plain;
            case 1 -> dull;
            case 2 -> fanciful;
            case 3 -> dull && s.now.day() % 3 != 0;
            default -> s.now.day() % 2 == 0 ? fanciful : !fanciful;
        };
    }

    private static long part(BigInteger above, BigInteger below, int what) {
        if (above.signum() == 0 || below.signum() == 0) {
            return what == 0 ? 0 : 1;
        }
        BigInteger g = above.gcd(below);
        return (what == 0 ? above : below).divide(g).longValueExact();
    }

    private static int part(long above, long below, int what) {
        return (int) part(BigInteger.valueOf(above), BigInteger.valueOf(below), what);
    }

    private void remember() {
        s.past.push(s.now);
        if (s.past.size() > 8) {
            s.past.removeLast();
        }
    }

    private void hear(int taster, int mix, boolean is) {
        TreeSet<Integer> left = new TreeSet<>(s.now.mayBe());
        left.removeIf(c -> senses(s.tasters.get(taster), mix, c) != is);
        s.now = new Moment(left, s.now.bearer(), s.now.day() + 1, s.now.draw());
    }

    private void mayBe(TreeSet<Integer> cows) {
        s.now = new Moment(cows, s.now.bearer(), s.now.day(), s.now.draw());
    }

    // ---- 1

    int cow(int milk) {
        if (milk < 1 || milk > 9) {
            return BAD;
        }
        if (s.milks.size() == 8) {
            return FULL;
        }
        s.milks.add(milk);
        mayBe(allCows());
        s.past.clear();
        return s.milks.size() - 1;
    }

    int taster(int kind, int fine) {
        if (kind < 0 || kind > 4 || fine < 1 || fine > 9) {
            return BAD;
        }
        if (s.tasters.size() == 4) {
            return FULL;
        }
        s.tasters.add(new Taster(kind, fine));
        s.past.clear();
        return s.tasters.size() - 1;
    }

    int milk(int cow, int v) {
        return noCow(cow) || v < 1 || v > 9 ? BAD : s.milks.set(cow, v);
    }

    int at(int taster, int what) {
        if (noTaster(taster) || what < 0 || what > 1) {
            return BAD;
        }
        Taster t = s.tasters.get(taster);
        return what == 0 ? t.kind() : t.fine();
    }

    int of(int cow) {
        return noCow(cow) ? BAD : s.milks.get(cow);
    }

    int notices(int taster, int mix, int cow) {
        if (noTaster(taster) || noMix(mix) || noCow(cow)) {
            return BAD;
        }
        return senses(s.tasters.get(taster), mix, cow) ? 1 : 0;
    }

    int type(int letter) {
        if (letter < 32 || letter > 126) {
            return BAD;
        }
        if (tape.length() == 40) {
            return FULL;
        }
        tape += (char) letter;
        return tape.length();
    }

    int herd() {
        String text = tape;
        tape = "";
        String bare = text.replace(" ", "");
        if (!isHerd(bare)) {
            return -20 - faultPlace(text);
        }
        State old = s;
        s = new State();
        String[] halves = bare.split(";");
        for (char letter : halves[0].replace("!", "").toCharArray()) {
            s.milks.add(letter - '0');
        }
        if (halves.length > 1) {
            for (String t : halves[1].split(",")) {
                s.tasters.add(new Taster("pdfso".indexOf(t.charAt(0)), t.charAt(1) - '0'));
            }
        }
        int mark = halves[0].indexOf('!');
        s.now = new Moment(allCows(), mark < 0 ? NONE : mark - 1, 0, old.now.draw());
        return s.milks.size();
    }

    private static boolean isHerd(String bare) {
        return HERD.matcher(bare).matches();
    }

    /** Whether some herd begins so: tried by the ends that any beginning could need. */
    private static boolean canBegin(String bare) {
        for (String end : new String[] {"", "1", "p1", "1;p1"}) {
            if (isHerd(bare + end)) {
                return true;
            }
        }
        return false;
    }

    private static int faultPlace(String text) {
        for (int place = 0; place < text.length(); place++) {
            if (text.charAt(place) != ' ' && !canBegin(text.substring(0, place + 1).replace(" ", ""))) {
                return place;
            }
        }
        return text.length();
    }

    int count(int what) {
        return switch (what) {
            case 0 -> s.milks.size();
            case 1 -> s.tasters.size();
            case 2 -> s.now.day();
            case 3 -> bits(s.now.mayBe());
            case 4 -> s.now.bearer();
            case 5 -> milkSum(allCows());
            case 6 -> milkSum(s.now.mayBe());
            case 7 -> s.past.size();
            default -> BAD;
        };
    }

    // ---- done

    int answer(int taster, int mix, int is) {
        if (noTaster(taster) || noMix(mix) || is != 0 && is != 1) {
            return BAD;
        }
        if (s.now.day() + 1 > 9999) {
            return FULL;
        }
        remember();
        hear(taster, mix, is == 1);
        return count(3);
    }

    int drink(int taster, int mix) {
        if (noTaster(taster) || noMix(mix)) {
            return BAD;
        }
        if (s.now.day() + 1 > 9999) {
            return FULL;
        }
        if (s.now.bearer() == NONE) {
            return NOT;
        }
        remember();
        boolean is = senses(s.tasters.get(taster), mix, s.now.bearer());
        hear(taster, mix, is);
        return is ? 1 : 0;
    }

    int forget() {
        if (s.now.mayBe().equals(allCows())) {
            return NOT;
        }
        remember();
        mayBe(allCows());
        return s.now.mayBe().size();
    }

    int bear(int cow) {
        if (cow != NONE && noCow(cow)) {
            return BAD;
        }
        if (cow == s.now.bearer()) {
            return NOT;
        }
        remember();
        int was = s.now.bearer();
        s.now = new Moment(s.now.mayBe(), cow, s.now.day(), s.now.draw());
        return was;
    }

    int drift(int n) {
        if (n < 1 || n > 40) {
            return BAD;
        }
        if (s.now.day() + n > 9999) {
            return FULL;
        }
        for (int k = 0; k < n; k++) {
            remember();
            BigInteger draw = BigInteger.valueOf(s.now.draw()).multiply(BigInteger.valueOf(1103515245))
                .add(BigInteger.valueOf(12345)).mod(BigInteger.TWO.pow(31));
            long d = draw.longValueExact();
            s.now = new Moment(s.now.mayBe(), s.now.bearer(), s.now.day(), d);
            if (s.tasters.isEmpty() || s.now.bearer() == NONE) {
                continue;
            }
            int taster = (int) (d / 65536 % s.tasters.size());
            int mix = (int) (d / 128 % (long) Math.pow(2, s.milks.size()));
            if (mix != 0) {
                hear(taster, mix, senses(s.tasters.get(taster), mix, s.now.bearer()));
            }
        }
        return count(3);
    }

    int undo() {
        if (s.past.isEmpty()) {
            return NONE;
        }
        s.now = s.past.pop();
        return s.past.size();
    }

    int seed(int v) {
        if (v < 0) {
            return BAD;
        }
        long was = s.now.draw();
        s.now = new Moment(s.now.mayBe(), s.now.bearer(), s.now.day(), v);
        return (int) was;
    }

    // ---- 2

    int tells(int taster, int mix) {
        return noTaster(taster) || noMix(mix) ? BAD : told(s.tasters.get(taster), mix);
    }

    private int told(Taster t, int mix) {
        int set = 0;
        for (int c : s.now.mayBe()) {
            if (senses(t, mix, c)) {
                set |= 1 << c;
            }
        }
        return set;
    }

    /** By mix, from 1 on; the first item stays free. */
    private int[] allTold(int taster) {
        int[] told = new int[1 << s.milks.size()];
        for (int mix = 1; mix < told.length; mix++) {
            told[mix] = told(s.tasters.get(taster), mix);
        }
        return told;
    }

    private static final int NEVER = 1000;

    private static int depth(int set, int[] told, Map<Integer, Integer> memo) {
        if (Integer.bitCount(set) <= 1) {
            return 0;
        }
        Integer known = memo.get(set);
        if (known != null) {
            return known;
        }
        int best = NEVER;
        for (int mix = 1; mix < told.length; mix++) {
            best = Math.min(best, depthBy(set, told[mix], told, memo));
        }
        memo.put(set, best);
        return best;
    }

    private static int depthBy(int set, int yes, int[] told, Map<Integer, Integer> memo) {
        int in = set & yes;
        if (in == 0 || in == set) {
            return NEVER;
        }
        return Math.min(NEVER, 1 + Math.max(depth(in, told, memo), depth(set - in, told, memo)));
    }

    int fewest(int taster) {
        if (noTaster(taster)) {
            return BAD;
        }
        int d = depth(count(3), allTold(taster), new HashMap<>());
        return d == NEVER ? NONE : d;
    }

    int next(int taster) {
        int d = fewest(taster);
        if (d == BAD) {
            return BAD;
        }
        if (d == NONE || d == 0) {
            return NONE;
        }
        int[] told = allTold(taster);
        Map<Integer, Integer> memo = new HashMap<>();
        for (int mix = 1; mix < told.length; mix++) {
            if (depthBy(count(3), told[mix], told, memo) == d) {
                return mix;
            }
        }
        throw new AssertionError();
    }

    int once(int taster, int k) {
        if (noTaster(taster) || k < -1) {
            return BAD;
        }
        int[] mixes = together(allTold(taster));
        if (mixes == null) {
            return NONE;
        }
        return k == -1 ? mixes.length : k < mixes.length ? mixes[k] : NONE;
    }

    private int[] together(int[] told) {
        if (s.now.mayBe().size() <= 1) {
            return new int[] {};
        }
        for (int a = 1; a < told.length; a++) {
            if (allUnlike(told[a], 0)) {
                return new int[] {a};
            }
        }
        for (int a = 1; a < told.length; a++) {
            for (int b = a + 1; b < told.length; b++) {
                if (allUnlike(told[a], told[b])) {
                    return new int[] {a, b};
                }
            }
        }
        return null;
    }

    private boolean allUnlike(int one, int other) {
        int seen = 0;
        for (int c : s.now.mayBe()) {
            int answers = (one >> c & 1) * 2 + (other >> c & 1);
            if ((seen & 1 << answers) != 0) {
                return false;
            }
            seen |= 1 << answers;
        }
        return true;
    }

    int halves(int taster, int what) {
        if (noTaster(taster) || what < 0 || what > 1) {
            return BAD;
        }
        if (s.now.mayBe().size() <= 1) {
            return NONE;
        }
        int[] told = allTold(taster);
        for (int part = 1; part <= 8; part++) {
            for (int mix = 1; mix < told.length; mix++) {
                int yes = members(told[mix]).size();
                if (Math.max(yes, s.now.mayBe().size() - yes) == part) {
                    return what == 0 ? mix : part;
                }
            }
        }
        throw new AssertionError();
    }

    int likely(int cow, int what) {
        if (noCow(cow) || what < 0 || what > 1) {
            return BAD;
        }
        return part(s.now.mayBe().contains(cow) ? s.milks.get(cow) : 0, count(6), what);
    }

    int noticed(int taster, int mix, int what) {
        if (noTaster(taster) || noMix(mix) || what < 0 || what > 1) {
            return BAD;
        }
        return part(milkSum(members(tells(taster, mix))), count(6), what);
    }

    int single(int k) {
        if (k < -2) {
            return BAD;
        }
        List<Integer> order = bestOrder(count(3));
        if (k >= 0) {
            return k < order.size() ? order.get(k) : NONE;
        }
        return part(cost(order), count(6), k == -1 ? 0 : 1);
    }

    private int cost(List<Integer> order) {
        int sum = 0;
        for (int k = 0; k < order.size(); k++) {
            int trials = k + 1 == order.size() ? k : k + 1;
            sum += trials * s.milks.get(order.get(k));
        }
        return sum;
    }

    /** By sets of cows that are left: the least that they cost, then the first order that costs it. */
    private List<Integer> bestOrder(int all) {
        int[] least = new int[256];
        int many = Integer.bitCount(all);
        for (int left = 1; left <= all; left++) {
            if ((left & ~all) == 0) {
                least[left] = Integer.MAX_VALUE;
                for (int c : members(left)) {
                    least[left] = Math.min(least[left], stepCost(many, left, c) + least[left - (1 << c)]);
                }
            }
        }
        List<Integer> order = new ArrayList<>();
        int left = all;
        while (left != 0) {
            for (int c : members(left)) {
                if (stepCost(many, left, c) + least[left - (1 << c)] == least[left]) {
                    order.add(c);
                    left -= 1 << c;
                    break;
                }
            }
        }
        return order;
    }

    private int stepCost(int many, int left, int cow) {
        int before = many - Integer.bitCount(left);
        return s.milks.get(cow) * (before + 1 == many ? before : before + 1);
    }

    int share(int cow, int mix, int what) {
        if (noCow(cow) || noMix(mix) || what < 0 || what > 1) {
            return BAD;
        }
        return part(members(mix).contains(cow) ? s.milks.get(cow) : 0, milkSum(members(mix)), what);
    }

    int image() {
        kept = s.copy();
        return 1;
    }

    int restore() {
        if (kept == null) {
            return NONE;
        }
        s = kept.copy();
        return 1;
    }

    // ---- 3

    private static int laneOf(Object row) {
        return row instanceof byte[] ? 0 : row instanceof short[] ? 1 : row instanceof int[] ? 2 : 3;
    }

    private static boolean noLane(int sheet, int lane) {
        return sheet < 0 || sheet > 3 || lane < 0 || lane > 3;
    }

    private int refusal(int sheet, int lane, int i, int n) {
        if (sheets[sheet] == null) {
            return NULL;
        }
        if (laneOf(sheets[sheet]) != lane) {
            return CAST;
        }
        long end = (long) i + n;
        return i < 0 || end > java.lang.reflect.Array.getLength(sheets[sheet]) ? INDEX : 0;
    }

    private void set(int sheet, int i, long v) {
        Object row = sheets[sheet];
        if (row instanceof byte[] bytes) {
            bytes[i] = (byte) v;
        } else if (row instanceof short[] shorts) {
            shorts[i] = (short) v;
        } else if (row instanceof int[] ints) {
            ints[i] = (int) v;
        } else {
            ((long[]) row)[i] = v;
        }
    }

    /** The pairs, or null if one is none. */
    private int[][] pairs(int sheet, int i, int n) {
        int[][] pairs = new int[n][2];
        for (int k = 0; k < n; k++) {
            long mix = java.lang.reflect.Array.getLong(sheets[sheet], i + 2 * k);
            long is = java.lang.reflect.Array.getLong(sheets[sheet], i + 2 * k + 1);
            if (noMix(mix) || is != 0 && is != 1) {
                return null;
            }
            pairs[k] = new int[] {(int) mix, (int) is};
        }
        return pairs;
    }

    private int lies(Taster t, int cow, int[][] pairs) {
        int wrong = 0;
        for (int[] pair : pairs) {
            if (senses(t, pair[0], cow) != (pair[1] == 1)) {
                wrong++;
            }
        }
        return wrong;
    }

    private int withLies(Taster t, int most, int[][] pairs) {
        TreeSet<Integer> cows = allCows();
        cows.removeIf(c -> lies(t, c, pairs) > most);
        return bits(cows);
    }

    int fits(int taster, int sheet, int lane, int i, int n, int what) {
        if (noTaster(taster) || noLane(sheet, lane) || n < 1 || n > 6 || what < 0 || what > 3) {
            return BAD;
        }
        int refusal = refusal(sheet, lane, i, 2 * n);
        if (refusal != 0) {
            return refusal;
        }
        int[][] pairs = pairs(sheet, i, n);
        if (pairs == null) {
            return NOT;
        }
        Taster t = s.tasters.get(taster);
        if (what < 2) {
            return withLies(t, what, pairs);
        }
        TreeSet<Integer> set = new TreeSet<>();
        for (int k = what == 2 ? 0 : 1; k <= (what == 2 ? 4 : 9); k++) {
            if (withLies(what == 2 ? new Taster(k, t.fine()) : new Taster(t.kind(), k), 0, pairs) != 0) {
                set.add(k);
            }
        }
        int bits = 0;
        for (int k : set) {
            bits += 1 << k;
        }
        return bits;
    }

    long slips(int cow, int taster, int c, int sheet, int lane, int i, int n, int what) {
        if (noCow(cow) || noTaster(taster) || c < 0 || c > 10 || noLane(sheet, lane) || n < 1 || n > 6
            || what < 0 || what > 1) {
            return BAD;
        }
        int refusal = refusal(sheet, lane, i, 2 * n);
        if (refusal != 0) {
            return refusal;
        }
        int[][] pairs = pairs(sheet, i, n);
        if (pairs == null) {
            return NOT;
        }
        BigInteger all = BigInteger.ZERO;
        BigInteger hers = BigInteger.ZERO;
        for (int other : s.now.mayBe()) {
            int wrong = lies(s.tasters.get(taster), other, pairs);
            BigInteger weight = BigInteger.valueOf(s.milks.get(other)).multiply(BigInteger.valueOf(c).pow(wrong))
                .multiply(BigInteger.valueOf(10 - c).pow(n - wrong));
            all = all.add(weight);
            hers = other == cow ? weight : hers;
        }
        return part(hers, all, what);
    }

    int film(int taster, int n, int sheet, int lane, int i) {
        if (noTaster(taster) || n < 1 || n > 24 || noMix(n) || noLane(sheet, lane)) {
            return BAD;
        }
        int refusal = refusal(sheet, lane, i, n);
        if (refusal != 0) {
            return refusal;
        }
        for (int mix = 1; mix <= n; mix++) {
            set(sheet, i + mix - 1, tells(taster, mix));
        }
        return n;
    }

    int sheet(int sheet, int lane, int n) {
        if (noLane(sheet, lane) || n > 24) {
            return BAD;
        }
        if (n < 0) {
            return SIZE;
        }
        sheets[sheet] = switch (lane) {
            case 0 -> new byte[n];
            case 1 -> new short[n];
            case 2 -> new int[n];
            default -> new long[n];
        };
        return n;
    }

    int drop(int sheet) {
        if (sheet < 0 || sheet > 3) {
            return BAD;
        }
        if (sheets[sheet] == null) {
            return NULL;
        }
        int had = java.lang.reflect.Array.getLength(sheets[sheet]);
        sheets[sheet] = null;
        return had;
    }

    int item(int sheet, int lane, int i, long v) {
        if (noLane(sheet, lane)) {
            return BAD;
        }
        int refusal = refusal(sheet, lane, i, 1);
        if (refusal == 0) {
            set(sheet, i, v);
        }
        return refusal == 0 ? 1 : refusal;
    }

    /** What the machine itself finds: this is how the document's order of NULL, CAST, INDEX came about. */
    int copy(int from, int i, int to, int j, int n) {
        if (from < 0 || from > 3 || to < 0 || to > 3) {
            return BAD;
        }
        try {
            System.arraycopy(sheets[from], i, sheets[to], j, n);
            return n;
        } catch (NullPointerException e) {
            return NULL;
        } catch (ArrayStoreException e) {
            return CAST;
        } catch (IndexOutOfBoundsException e) {
            return INDEX;
        }
    }
}
