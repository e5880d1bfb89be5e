/**
 * The cow with the news: one of a herd has it, and tasters of milk find out which.
 * ../shared/DOC.md says what each call promises; every set of cows is an int of bits.
 */
public final class NewsCow {
    public static final int BAD = -1, NOT = -2, FULL = -3, NONE = -4, NULL = -11, CAST = -12, INDEX = -13, SIZE = -14;

    private static final int MOST_COWS = 8;
    private static final int SETS_OF_COWS = 1 << MOST_COWS;
    private static final int MOST_TASTERS = 4;
    private static final int KINDS = 5;
    private static final int MOST_FINE = 9;
    private static final int MOST_MILK = 9;
    private static final int LAST_DAY = 9999;
    private static final int MOST_DRIFTS = 40;
    private static final int MOST_LETTERS = 40;
    private static final int MOST_SHEETS = 4;
    private static final int LANES = 4;
    private static final int MOST_ITEMS = 24;
    private static final int MOST_PAIRS = 6;
    private static final int TENTHS = 10;
    private static final int LOWEST_31_BITS = 0x7fffffff;
    private static final int FAULT = -20;
    private static final int WELL = 0;

    private final Dairy dairy = new Dairy();
    private final Dairy kept = new Dairy();
    private boolean isKept = false;
    private final Tape tape = new Tape();
    private final Plan plan = new Plan();
    private final Trials trials = new Trials();
    private final Row row = new Row();
    private final Sheet[] sheets = new Sheet[MOST_SHEETS];

    public NewsCow() {
        for (int s = 0; s < sheets.length; s++) {
            sheets[s] = new Sheet();
        }
    }

    // ---- 1 cows, tasters

    public int cow(int milk) {
        if (milk < 1 || milk > MOST_MILK) {
            return BAD;
        }
        if (dairy.cows >= MOST_COWS) {
            return FULL;
        }
        dairy.addCow(milk);
        dairy.now.mayBe = dairy.allCows();
        dairy.known = 0;
        return dairy.cows - 1;
    }

    public int taster(int kind, int fine) {
        if (kind < 0 || kind >= KINDS || fine < 1 || fine > MOST_FINE) {
            return BAD;
        }
        if (dairy.tasters >= MOST_TASTERS) {
            return FULL;
        }
        dairy.addTaster(kind, fine);
        dairy.known = 0;
        return dairy.tasters - 1;
    }

    public int milk(int cow, int v) {
        if (!isCow(cow) || v < 1 || v > MOST_MILK) {
            return BAD;
        }
        int before = dairy.milks[cow];
        dairy.milks[cow] = v;
        return before;
    }

    public int at(int taster, int what) {
        if (!isTaster(taster) || !isEither(what)) {
            return BAD;
        }
        return what == 0 ? dairy.kinds[taster] : dairy.fines[taster];
    }

    public int of(int cow) {
        return isCow(cow) ? dairy.milks[cow] : BAD;
    }

    public int notices(int taster, int mix, int cow) {
        if (!isTaster(taster) || !isMix(mix) || !isCow(cow)) {
            return BAD;
        }
        return dairy.noticedBy(taster, mix) >> cow & 1;
    }

    public int type(int letter) {
        if (letter < ' ' || letter > '~') {
            return BAD;
        }
        if (tape.size >= MOST_LETTERS) {
            return FULL;
        }
        tape.put((char) letter);
        return tape.size;
    }

    public int herd() {
        boolean isHerd = tape.readHerd();
        tape.size = 0;
        if (!isHerd) {
            return FAULT - tape.place;
        }
        dairy.settle(tape);
        return dairy.cows;
    }

    public int count(int what) {
        switch (what) {
            case 0: return dairy.cows;
            case 1: return dairy.tasters;
            case 2: return dairy.now.day;
            case 3: return dairy.now.mayBe;
            case 4: return dairy.now.bearer;
            case 5: return dairy.milkOf(dairy.allCows());
            case 6: return dairy.milkOf(dairy.now.mayBe);
            case 7: return dairy.known;
            default: return BAD;
        }
    }

    // ---- what is done

    public int answer(int taster, int mix, int is) {
        if (!isTaster(taster) || !isMix(mix) || !isEither(is)) {
            return BAD;
        }
        if (dairy.now.day >= LAST_DAY) {
            return FULL;
        }
        dairy.remember();
        dairy.hear(dairy.agreeing(dairy.kinds[taster], dairy.fines[taster], mix, is));
        return dairy.now.mayBe;
    }

    public int drink(int taster, int mix) {
        if (!isTaster(taster) || !isMix(mix)) {
            return BAD;
        }
        if (dairy.now.day >= LAST_DAY) {
            return FULL;
        }
        if (dairy.now.bearer == NONE) {
            return NOT;
        }
        dairy.remember();
        return dairy.swallow(taster, mix);
    }

    public int forget() {
        if (dairy.now.mayBe == dairy.allCows()) {
            return NOT;
        }
        dairy.remember();
        dairy.now.mayBe = dairy.allCows();
        return dairy.cows;
    }

    public int bear(int cow) {
        if (cow != NONE && !isCow(cow)) {
            return BAD;
        }
        int before = dairy.now.bearer;
        if (before == cow) {
            return NOT;
        }
        dairy.remember();
        dairy.now.bearer = cow;
        return before;
    }

    public int drift(int n) {
        if (n < 1 || n > MOST_DRIFTS) {
            return BAD;
        }
        if (dairy.now.day + n > LAST_DAY) {
            return FULL;
        }
        for (int time = 0; time < n; time++) {
            dairy.driftOnce();
        }
        return dairy.now.mayBe;
    }

    public int undo() {
        if (dairy.known == 0) {
            return NONE;
        }
        dairy.goBack();
        return dairy.known;
    }

    public int seed(int v) {
        if (v < 0) {
            return BAD;
        }
        int before = dairy.now.draw;
        dairy.now.draw = v;
        return before;
    }

    // ---- 2 foretold

    public int tells(int taster, int mix) {
        if (!isTaster(taster) || !isMix(mix)) {
            return BAD;
        }
        return dairy.noticedBy(taster, mix) & dairy.now.mayBe;
    }

    public int fewest(int taster) {
        if (!isTaster(taster)) {
            return BAD;
        }
        plan.lookAhead(dairy, taster);
        return plan.fewestMixes();
    }

    public int next(int taster) {
        if (!isTaster(taster)) {
            return BAD;
        }
        plan.lookAhead(dairy, taster);
        return plan.firstMix();
    }

    public int once(int taster, int k) {
        if (!isTaster(taster) || k < -1) {
            return BAD;
        }
        plan.lookAhead(dairy, taster);
        int many = plan.chooseAhead();
        if (k == -1 || many == NONE) {
            return many;
        }
        return k >= many ? NONE : k == 0 ? plan.lesser : plan.greater;
    }

    public int halves(int taster, int what) {
        if (!isTaster(taster) || !isEither(what)) {
            return BAD;
        }
        plan.lookAhead(dairy, taster);
        int mix = plan.evenestMix();
        return mix == NONE || what == 0 ? mix : plan.greaterPart(mix);
    }

    public int likely(int cow, int what) {
        if (!isCow(cow) || !isEither(what)) {
            return BAD;
        }
        return milkFraction(1 << cow & dairy.now.mayBe, dairy.now.mayBe, what);
    }

    public int noticed(int taster, int mix, int what) {
        if (!isTaster(taster) || !isMix(mix) || !isEither(what)) {
            return BAD;
        }
        return milkFraction(dairy.noticedBy(taster, mix) & dairy.now.mayBe, dairy.now.mayBe, what);
    }

    public int single(int k) {
        if (k < -2) {
            return BAD;
        }
        trials.arrange(dairy);
        if (k < 0) {
            return (int) fraction(trials.allTrials(dairy), dairy.milkOf(dairy.now.mayBe), -1 - k);
        }
        return k < trials.size ? trials.order[k] : NONE;
    }

    public int share(int cow, int mix, int what) {
        if (!isCow(cow) || !isMix(mix) || !isEither(what)) {
            return BAD;
        }
        return milkFraction(1 << cow & mix, mix, what);
    }

    public int image() {
        kept.becomeLike(dairy);
        isKept = true;
        return 1;
    }

    public int restore() {
        if (!isKept) {
            return NONE;
        }
        dairy.becomeLike(kept);
        return 1;
    }

    // ---- 3 sheets

    public int fits(int taster, int sheet, int lane, int i, int n, int what) {
        if (!isTaster(taster) || !isLaneOfSheet(sheet, lane) || n < 1 || n > MOST_PAIRS || what < 0 || what > 3) {
            return BAD;
        }
        int refusal = readRow(sheet, lane, i, n);
        if (refusal != WELL) {
            return refusal;
        }
        int kind = dairy.kinds[taster];
        int fine = dairy.fines[taster];
        switch (what) {
            case 0: return row.fitting(dairy, kind, fine);
            case 1: return row.fittingButOne(dairy, kind, fine);
            case 2: return row.kindsThatFit(dairy, fine);
            default: return row.finesThatFit(dairy, kind);
        }
    }

    public long slips(int cow, int taster, int c, int sheet, int lane, int i, int n, int what) {
        if (!isCow(cow) || !isTaster(taster) || c < 0 || c > TENTHS) {
            return BAD;
        }
        if (!isLaneOfSheet(sheet, lane) || n < 1 || n > MOST_PAIRS || !isEither(what)) {
            return BAD;
        }
        int refusal = readRow(sheet, lane, i, n);
        if (refusal != WELL) {
            return refusal;
        }
        row.compare(dairy, dairy.kinds[taster], dairy.fines[taster]);
        int mayBe = dairy.now.mayBe;
        return fraction(row.weightOf(dairy, 1 << cow & mayBe, c), row.weightOf(dairy, mayBe, c), what);
    }

    public int film(int taster, int n, int sheet, int lane, int i) {
        if (!isTaster(taster) || n < 1 || n > MOST_ITEMS || !isMix(n) || !isLaneOfSheet(sheet, lane)) {
            return BAD;
        }
        int refusal = sheets[sheet].refusal(lane, i, n);
        if (refusal != WELL) {
            return refusal;
        }
        for (int mix = 1; mix <= n; mix++) {
            sheets[sheet].put(i + mix - 1, dairy.noticedBy(taster, mix) & dairy.now.mayBe);
        }
        return n;
    }

    public int sheet(int sheet, int lane, int n) {
        if (!isLaneOfSheet(sheet, lane) || n > MOST_ITEMS) {
            return BAD;
        }
        if (n < 0) {
            return SIZE;
        }
        sheets[sheet].renew(lane, n);
        return n;
    }

    public int drop(int sheet) {
        if (!isSheet(sheet)) {
            return BAD;
        }
        int had = sheets[sheet].size;
        if (had == Sheet.NOTHING) {
            return NULL;
        }
        sheets[sheet].size = Sheet.NOTHING;
        return had;
    }

    public int item(int sheet, int lane, int i, long v) {
        if (!isLaneOfSheet(sheet, lane)) {
            return BAD;
        }
        int refusal = sheets[sheet].refusal(lane, i, 1);
        if (refusal != WELL) {
            return refusal;
        }
        sheets[sheet].put(i, v);
        return 1;
    }

    public int copy(int from, int i, int to, int j, int n) {
        if (!isSheet(from) || !isSheet(to)) {
            return BAD;
        }
        Sheet source = sheets[from];
        Sheet target = sheets[to];
        if (source.size == Sheet.NOTHING || target.size == Sheet.NOTHING) {
            return NULL;
        }
        if (source.lane != target.lane) {
            return CAST;
        }
        if (!source.holds(i, n) || !target.holds(j, n)) {
            return INDEX;
        }
        System.arraycopy(source.items, i, target.items, j, n);
        return n;
    }

    private boolean isCow(int number) {
        return number >= 0 && number < dairy.cows;
    }

    private boolean isTaster(int number) {
        return number >= 0 && number < dairy.tasters;
    }

    private boolean isMix(int set) {
        return set >= 1 && set <= dairy.allCows();
    }

    private static boolean isEither(int what) {
        return what == 0 || what == 1;
    }

    private static boolean isSheet(int number) {
        return number >= 0 && number < MOST_SHEETS;
    }

    private static boolean isLaneOfSheet(int number, int lane) {
        return isSheet(number) && lane >= 0 && lane < LANES;
    }

    /** WELL, and the row has the pairs; else what the call answers. */
    private int readRow(int number, int lane, int from, int pairs) {
        int refusal = sheets[number].refusal(lane, from, 2 * pairs);
        if (refusal != WELL) {
            return refusal;
        }
        return row.read(sheets[number], from, pairs, dairy.allCows()) ? WELL : NOT;
    }

    private int milkFraction(int part, int whole, int what) {
        return (int) fraction(dairy.milkOf(part), dairy.milkOf(whole), what);
    }

    /** In lowest terms: what is above (what 0), what is below (1); nothing of anything is 0 by 1. */
    private static long fraction(long above, long below, int what) {
        if (above < 1 || below < 1) {
            return what;
        }
        long divisor = greatestDivisor(above, below);
        return (what == 0 ? above : below) / divisor;
    }

    /** Euclid's, of two numbers above 0: 100 steps are more than any two longs need. */
    private static long greatestDivisor(long one, long other) {
        long greater = one;
        long less = other;
        for (int step = 0; step < 100 && less != 0; step++) {
            long rest = greater % less;
            greater = less;
            less = rest;
        }
        return Math.max(1, greater);
    }

    /** What can be UNDONE. */
    private static final class Moment {
        int mayBe = 0;
        int bearer = NONE;
        int day = 0;
        int draw = 1;

        void becomeLike(Moment other) {
            mayBe = other.mayBe;
            bearer = other.bearer;
            day = other.day;
            draw = other.draw;
        }
    }

    /** All that an IMAGE keeps. */
    private static final class Dairy {
        static final int PLACES = 8;
        static final int LAST_PLACE = PLACES - 1;

        final int[] milks = new int[MOST_COWS];
        int cows = 0;
        final int[] kinds = new int[MOST_TASTERS];
        final int[] fines = new int[MOST_TASTERS];
        int tasters = 0;
        final Moment now = new Moment();
        /** A ring: the newest stands at its place, older ones at places before it. */
        final Moment[] past = new Moment[PLACES];
        int newest = 0;
        int known = 0;

        Dairy() {
            for (int p = 0; p < past.length; p++) {
                past[p] = new Moment();
            }
        }

        void becomeLike(Dairy other) {
            System.arraycopy(other.milks, 0, milks, 0, MOST_COWS);
            System.arraycopy(other.kinds, 0, kinds, 0, MOST_TASTERS);
            System.arraycopy(other.fines, 0, fines, 0, MOST_TASTERS);
            cows = other.cows;
            tasters = other.tasters;
            now.becomeLike(other.now);
            for (int p = 0; p < PLACES; p++) {
                past[p].becomeLike(other.past[p]);
            }
            newest = other.newest;
            known = other.known;
        }

        void addCow(int giving) {
            milks[cows] = giving;
            cows++;
        }

        void addTaster(int kind, int fine) {
            kinds[tasters] = kind;
            fines[tasters] = fine;
            tasters++;
        }

        /** The herd that a tape has read, in place of all but THE DRAW. */
        void settle(Tape read) {
            cows = 0;
            for (int c = 0; c < read.cows; c++) {
                addCow(read.milks[c]);
            }
            tasters = 0;
            for (int t = 0; t < read.tasters; t++) {
                addTaster(read.kinds[t], read.fines[t]);
            }
            now.mayBe = allCows();
            now.bearer = read.bearer;
            now.day = 0;
            known = 0;
        }

        int allCows() {
            return (1 << cows) - 1;
        }

        int milkOf(int set) {
            int sum = 0;
            for (int c = 0; c < cows; c++) {
                if ((set >> c & 1) == 1) {
                    sum += milks[c];
                }
            }
            return sum;
        }

        /** Of which cows, if they had the news, he would notice it. */
        int noticedBy(int taster, int mix) {
            return noticedAs(kinds[taster], fines[taster], mix);
        }

        int noticedAs(int kind, int fine, int mix) {
            switch (kind) {
                case 1: return dull(fine, mix);
                case 2: return fanciful(fine, mix);
                case 3: return now.day % 3 == 0 ? 0 : dull(fine, mix);
                case 4: return now.day % 2 == 0 ? fanciful(fine, mix) : allCows() & ~fanciful(fine, mix);
                default: return mix;
            }
        }

        int dull(int fine, int mix) {
            int whole = milkOf(mix);
            int strong = 0;
            for (int c = 0; c < cows; c++) {
                if (milks[c] * fine >= whole) {
                    strong |= 1 << c;
                }
            }
            return strong & mix;
        }

        int fanciful(int fine, int mix) {
            return Integer.bitCount(mix) > fine ? allCows() : mix;
        }

        /** By which cows, if they had the news, the answer would be so. */
        int agreeing(int kind, int fine, int mix, int is) {
            int noticing = noticedAs(kind, fine, mix);
            return is == 1 ? noticing : allCows() & ~noticing;
        }

        /** An answer that would be so by some cows alone. */
        void hear(int agreeing) {
            now.mayBe &= agreeing;
            now.day++;
        }

        /** Of THE BEARER, who is told: whether he notices it. */
        int swallow(int taster, int mix) {
            int noticing = noticedBy(taster, mix);
            int is = noticing >> now.bearer & 1;
            hear(is == 1 ? noticing : ~noticing);
            return is;
        }

        void driftOnce() {
            remember();
            now.draw = now.draw * 1103515245 + 12345 & LOWEST_31_BITS;
            int mix = now.draw / 128 & allCows();
            if (tasters > 0 && mix != 0 && now.bearer != NONE) {
                swallow(now.draw / 65536 % tasters, mix);
            }
        }

        void remember() {
            newest = newest + 1 & LAST_PLACE;
            past[newest].becomeLike(now);
            known = Math.min(PLACES, known + 1);
        }

        void goBack() {
            now.becomeLike(past[newest]);
            newest = newest - 1 & LAST_PLACE;
            known--;
        }
    }

    /** THE TAPE, and the herd that was read from it last. */
    private static final class Tape {
        static final char END = 0;
        static final String LETTERS_OF_KINDS = "pdfso";

        final char[] letters = new char[MOST_LETTERS];
        int size = 0;
        /** Of the letter ahead; where a reading stops short, that of the fault. */
        int place = 0;
        final int[] milks = new int[MOST_COWS];
        int cows = 0;
        int bearer = NONE;
        final int[] kinds = new int[MOST_TASTERS];
        final int[] fines = new int[MOST_TASTERS];
        int tasters = 0;

        void put(char letter) {
            letters[size] = letter;
            size++;
        }

        boolean readHerd() {
            place = 0;
            cows = 0;
            bearer = NONE;
            tasters = 0;
            readCows();
            if (cows == 0) {
                return false;
            }
            if (ahead() == ';') {
                place++;
                if (!readTasters()) {
                    return false;
                }
            }
            return ahead() == END;
        }

        void readCows() {
            while (cows < MOST_COWS && isDigit(ahead())) {
                milks[cows] = ahead() - '0';
                cows++;
                place++;
                if (bearer == NONE && ahead() == '!') {
                    bearer = cows - 1;
                    place++;
                }
            }
        }

        boolean readTasters() {
            for (int before = 0; before < MOST_TASTERS; before++) {
                if (before > 0) {
                    if (ahead() != ',') {
                        return true;
                    }
                    place++;
                }
                if (!readTaster()) {
                    return false;
                }
            }
            return true;
        }

        boolean readTaster() {
            int kind = LETTERS_OF_KINDS.indexOf(ahead());
            if (kind < 0) {
                return false;
            }
            place++;
            if (!isDigit(ahead())) {
                return false;
            }
            kinds[tasters] = kind;
            fines[tasters] = ahead() - '0';
            tasters++;
            place++;
            return true;
        }

        /** The letter behind blanks, to which the place moves on. */
        char ahead() {
            while (place < size && letters[place] == ' ') {
                place++;
            }
            return place < size ? letters[place] : END;
        }

        static boolean isDigit(char letter) {
            return letter >= '1' && letter <= '9';
        }
    }

    /** What the mixes of one taster would tell, and which are best to drink. */
    private static final class Plan {
        /** Above what any herd needs: cows that can't be told apart. */
        static final int ENDLESS = 99;

        int mayBe = 0;
        int lastMix = 0;
        /** By mix: the cows that it may be of whom he would notice it. */
        final int[] told = new int[SETS_OF_COWS];
        /** The ways in which mixes part the cows, each but once. */
        final int[] cuts = new int[SETS_OF_COWS];
        int cutCount = 0;
        final boolean[] isCut = new boolean[SETS_OF_COWS];
        /** By set of cows: the fewest mixes by which one knows which of them it is. */
        final int[] depths = new int[SETS_OF_COWS];
        int lesser = NONE;
        int greater = NONE;

        void lookAhead(Dairy dairy, int taster) {
            mayBe = dairy.now.mayBe;
            lastMix = dairy.allCows();
            for (int mix = 1; mix <= lastMix; mix++) {
                told[mix] = dairy.noticedBy(taster, mix) & mayBe;
            }
        }

        static boolean isOneAtMost(int set) {
            return (set & set - 1) == 0;
        }

        int fewestMixes() {
            findDepths();
            return depths[mayBe] < ENDLESS ? depths[mayBe] : NONE;
        }

        int firstMix() {
            int fewest = fewestMixes();
            for (int mix = 1; mix <= lastMix && fewest > 0; mix++) {
                if (depthBehind(mayBe, told[mix]) == fewest) {
                    return mix;
                }
            }
            return NONE;
        }

        /** Parts of a set are lesser numbers, so that their depths are found ahead of its own. */
        void findDepths() {
            findCuts();
            for (int set = 0; set <= mayBe; set++) {
                if ((set & ~mayBe) == 0) {
                    depths[set] = isOneAtMost(set) ? 0 : depthOf(set);
                }
            }
        }

        /** Many mixes tell the same, or just the other way round: one of them is enough. */
        void findCuts() {
            for (int set = 0; set <= mayBe; set++) {
                isCut[set] = false;
            }
            cutCount = 0;
            for (int mix = 1; mix <= lastMix; mix++) {
                int cut = Math.min(told[mix], mayBe & ~told[mix]);
                if (!isCut[cut]) {
                    isCut[cut] = true;
                    cuts[cutCount] = cut;
                    cutCount++;
                }
            }
        }

        int depthOf(int set) {
            int least = leastThinkable(Integer.bitCount(set));
            int best = ENDLESS;
            for (int k = 0; k < cutCount && best > least; k++) {
                best = Math.min(best, depthBehind(set, cuts[k]));
            }
            return best;
        }

        /** By d answers no more than 2 to the d cows are told apart. */
        static int leastThinkable(int many) {
            int answers = 0;
            while (answers < MOST_COWS && 1 << answers < many) {
                answers++;
            }
            return answers;
        }

        int depthBehind(int set, int cut) {
            int yes = set & cut;
            int no = set & ~cut;
            if (yes == 0 || no == 0) {
                return ENDLESS;
            }
            return Math.min(ENDLESS, 1 + Math.max(depths[yes], depths[no]));
        }

        /** How many mixes, which stand in lesser and greater then. */
        int chooseAhead() {
            if (isOneAtMost(mayBe)) {
                return 0;
            }
            for (int mix = 1; mix <= lastMix; mix++) {
                if (isOneAtMost(told[mix]) && isOneAtMost(mayBe & ~told[mix])) {
                    lesser = mix;
                    return 1;
                }
            }
            for (int mix = 1; mix < lastMix; mix++) {
                int partner = partnerOf(mix);
                if (partner != NONE) {
                    lesser = mix;
                    greater = partner;
                    return 2;
                }
            }
            return NONE;
        }

        /** The first greater mix that tells apart what a mix leaves; three in one part are too many. */
        int partnerOf(int mix) {
            int yes = told[mix];
            int no = mayBe & ~yes;
            if (Integer.bitCount(yes) > 2 || Integer.bitCount(no) > 2) {
                return NONE;
            }
            for (int other = mix + 1; other <= lastMix; other++) {
                if (partsWell(yes, told[other]) && partsWell(no, told[other])) {
                    return other;
                }
            }
            return NONE;
        }

        static boolean partsWell(int set, int cut) {
            return isOneAtMost(set & cut) && isOneAtMost(set & ~cut);
        }

        int evenestMix() {
            if (isOneAtMost(mayBe)) {
                return NONE;
            }
            int best = NONE;
            int least = MOST_COWS + 1;
            for (int mix = 1; mix <= lastMix; mix++) {
                if (greaterPart(mix) < least) {
                    best = mix;
                    least = greaterPart(mix);
                }
            }
            return best;
        }

        int greaterPart(int mix) {
            return Math.max(Integer.bitCount(told[mix]), Integer.bitCount(mayBe & ~told[mix]));
        }
    }

    /** SINGLE: the cows that it may be, in the order in which they are best tried. */
    private static final class Trials {
        final int[] order = new int[MOST_COWS];
        int size = 0;

        void arrange(Dairy dairy) {
            size = 0;
            for (int c = 0; c < dairy.cows; c++) {
                if ((dairy.now.mayBe >> c & 1) == 1) {
                    insert(dairy, c);
                }
            }
            sortLastTwo();
        }

        /** Behind those that give as much or more. */
        void insert(Dairy dairy, int cow) {
            int place = size;
            while (place > 0 && dairy.milks[order[place - 1]] < dairy.milks[cow]) {
                order[place] = order[place - 1];
                place--;
            }
            order[place] = cow;
            size++;
        }

        /** As the last cow needs no trial, she and the one ahead cost the same: their numbers decide. */
        void sortLastTwo() {
            if (size >= 2 && order[size - 2] > order[size - 1]) {
                int last = order[size - 1];
                order[size - 1] = order[size - 2];
                order[size - 2] = last;
            }
        }

        /** The number of trials for each cow, times her milk, in all. */
        int allTrials(Dairy dairy) {
            int sum = 0;
            for (int k = 0; k < size; k++) {
                sum += dairy.milks[order[k]] * Math.min(k + 1, size - 1);
            }
            return sum;
        }
    }

    /** Pairs of a MIX and an answer, as a SHEET tells them. */
    private static final class Row {
        final int[] mixes = new int[MOST_PAIRS];
        final int[] answers = new int[MOST_PAIRS];
        int pairs = 0;
        /** By pair: the cows by which the answer would be so. */
        final int[] agreed = new int[MOST_PAIRS];

        /** Whether all are mixes of cows that there are, and answers. */
        boolean read(Sheet source, int from, int many, int lastMix) {
            pairs = 0;
            for (int p = 0; p < many; p++) {
                long mix = source.valueAt(from + 2 * p);
                long is = source.valueAt(from + 2 * p + 1);
                if (mix < 1 || mix > lastMix || is < 0 || is > 1) {
                    return false;
                }
                mixes[p] = (int) mix;
                answers[p] = (int) is;
                pairs++;
            }
            return true;
        }

        void compare(Dairy dairy, int kind, int fine) {
            for (int p = 0; p < pairs; p++) {
                agreed[p] = dairy.agreeing(kind, fine, mixes[p], answers[p]);
            }
        }

        int fitting(Dairy dairy, int kind, int fine) {
            int fit = dairy.allCows();
            for (int p = 0; p < pairs; p++) {
                fit &= dairy.agreeing(kind, fine, mixes[p], answers[p]);
            }
            return fit;
        }

        int fittingButOne(Dairy dairy, int kind, int fine) {
            int fit = dairy.allCows();
            int butOne = 0;
            for (int p = 0; p < pairs; p++) {
                int agreeing = dairy.agreeing(kind, fine, mixes[p], answers[p]);
                butOne = butOne & agreeing | fit & ~agreeing;
                fit &= agreeing;
            }
            return fit | butOne;
        }

        int kindsThatFit(Dairy dairy, int fine) {
            int set = 0;
            for (int kind = 0; kind < KINDS; kind++) {
                if (fitting(dairy, kind, fine) != 0) {
                    set |= 1 << kind;
                }
            }
            return set;
        }

        int finesThatFit(Dairy dairy, int kind) {
            int set = 0;
            for (int fine = 1; fine <= MOST_FINE; fine++) {
                if (fitting(dairy, kind, fine) != 0) {
                    set |= 1 << fine;
                }
            }
            return set;
        }

        /** How likely the compared row is by some cows, each as likely as her milk; all on one scale. */
        long weightOf(Dairy dairy, int set, int slipping) {
            long sum = 0;
            for (int c = 0; c < dairy.cows; c++) {
                if ((set >> c & 1) == 1) {
                    sum += weightOfOne(dairy.milks[c], c, slipping);
                }
            }
            return sum;
        }

        long weightOfOne(int giving, int cow, int slipping) {
            long weight = giving;
            for (int p = 0; p < pairs; p++) {
                weight *= (agreed[p] >> cow & 1) == 1 ? TENTHS - slipping : slipping;
            }
            return weight;
        }
    }

    /** A row of a LANE, or nothing; each item is as its LANE would hold it. */
    private static final class Sheet {
        static final int NOTHING = -1;

        final long[] items = new long[MOST_ITEMS];
        int lane = 0;
        int size = NOTHING;

        void renew(int newLane, int newSize) {
            lane = newLane;
            size = newSize;
            for (int k = 0; k < items.length; k++) {
                items[k] = 0;
            }
        }

        /** WELL, or why many items from one on can't be taken as a row of a lane. */
        int refusal(int asLane, int from, int many) {
            if (size == NOTHING) {
                return NULL;
            }
            if (lane != asLane) {
                return CAST;
            }
            return holds(from, many) ? WELL : INDEX;
        }

        boolean holds(int from, int many) {
            return from >= 0 && many >= 0 && from <= size - many;
        }

        long valueAt(int place) {
            return items[place];
        }

        void put(int place, long value) {
            switch (lane) {
                case 0: items[place] = (byte) value; break;
                case 1: items[place] = (short) value; break;
                case 2: items[place] = (int) value; break;
                default: items[place] = value; break;
            }
        }
    }
}
