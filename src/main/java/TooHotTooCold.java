import java.util.Arrays;

/** Up to four showers, turned by a text, thirty beats at once; ../shared/DOC.md says what each call answers. */
public final class TooHotTooCold {
    public static final int NONE = -1, BAD = -2, STATE = -3, FULL = -4;
    public static final long NO = -4611686018427387904L;

    private static final int NO_SHOWER = -5, NOT_AS_TOLD = -7;
    private static final int MISSING = -11, OUTSIDE = -12, UNLIKE = -13, BELOW_ZERO = -14;
    private static final int FAR_NO_SHOWER = -100000, FAR_NOT_AS_TOLD = -200000;

    private static final int MOST_SHOWERS = 4, MOST_TEXTS = 6, MOST_BYTES = 160, BEATS = 30, SWAY_FROM = 20;
    private static final int MOST_WARM = 999, MOST_LATE = 4, MOST_HASTE = 16, FIRST_HASTE = 8, MOST_TURNS = 20;
    private static final int KINDS = 6, MORES = 10, TAKEN_AS_SET = 6;
    private static final int SHEETS = 4, MOST_CELLS = 40, NO_SORT = -1, BYTES = 0, SHORTS = 1, INTS = 2;
    private static final int MOST_SEED = 99999, MOST_SEEDS = 30;
    private static final int NOBODY = -1, NEVER = -1;

    private static final int PLAIN = 0, SHARED = 1, NOTCHED = 2, BOILER = 3, STICKING = 4, OLD = 5;
    /** Of each kind by number the one that it also is: a boiler is shared, a sticking one notched. */
    private static final int[] KIND_ABOVE = {-1, 0, 0, 1, 2, 0};

    private static final int LATE = 0, WANTED = 1, SET = 2, HASTE = 3, ON = 4;

    private static final String FIRST_TEXT = "turns cold ; costs cold * cold ; yells cold < 0 - 20 ;";

    /** A cost and what it is the cost of make one number: the least of these is the least cost, of like ones the first. */
    private static final int CHOICES = 1024, NO_CHOICE = 2147483647;

    private final Household truth = new Household();
    private final Household thought = new Household();
    private final Household kept = new Household();
    private boolean imageKept = false;
    private final Morning morning = new Morning();
    private final Reader reader = new Reader();
    private final Law[] texts = new Law[MOST_TEXTS];
    private int textCount = 1;
    private final int[] tape = new int[MOST_BYTES];
    private int tapeSize = 0;
    private final int[][] rows = new int[SHEETS][MOST_CELLS];
    private final int[] rowSorts = new int[SHEETS];
    private final int[] rowSizes = new int[SHEETS];

    public TooHotTooCold() {
        int size = Math.min(FIRST_TEXT.length(), MOST_BYTES);
        for (int i = 0; i < size; i++) tape[i] = FIRST_TEXT.charAt(i);
        reader.read(tape, size);
        Law first = reader.law();
        for (int t = 0; t < MOST_TEXTS; t++) texts[t] = first;
        Arrays.fill(rowSorts, NO_SORT);
    }

    // ---- the law

    public int count(int what) {
        switch (what) {
            case 0: return truth.size;
            case 1: return truth.onBits();
            case 2: return textCount;
            case 3: return truth.law;
            case 4: return tapeSize;
            default: return BAD;
        }
    }

    public int feed(int n, int a, int b, int c, int d, int e) {
        if (!within(n, 1, 5)) return BAD;
        if (!isByte(a) || !isByte(b) || !isByte(c) || !isByte(d) || !isByte(e)) return BAD;
        if (tapeSize > MOST_BYTES - n) return FULL;
        feedOne(a);
        if (n > 1) feedOne(b);
        if (n > 2) feedOne(c);
        if (n > 3) feedOne(d);
        if (n > 4) feedOne(e);
        return tapeSize;
    }

    private void feedOne(int b) {
        if (tapeSize < MOST_BYTES) tape[tapeSize++] = b;
    }

    private static boolean isByte(int b) {
        return within(b, 0, 255);
    }

    public int text() {
        if (textCount >= MOST_TEXTS) return FULL;
        int fault = reader.read(tape, tapeSize);
        tapeSize = 0;
        if (fault >= 0) return -100 - fault;
        texts[textCount] = reader.law();
        return textCount++;
    }

    public int force(int t) {
        if (!within(t, 0, textCount - 1)) return BAD;
        int was = truth.law;
        truth.law = t;
        return was;
    }

    public int asks(int part, int coldWas, int set, int beat, int x) {
        if (!isShower(x)) return -1000;
        if (!within(part, Law.TURNS, Law.YELLS) || !within(coldWas, 0, 3999999)) return -2000;
        if (!isWarm(set) || !isBeat(beat)) return -2000;
        Law law = lawOf(truth);
        law.hear(coldWas / 2000 - 1000, coldWas % 2000 - 1000, set, beat, truth.late[x], truth.more[x]);
        return law.says(part);
    }

    private Law lawOf(Household house) {
        return texts[within(house.law, 0, MOST_TEXTS - 1) ? house.law : 0];
    }

    // ---- showers

    public int shower(int kindMore, int so, int warm) {
        if (!within(kindMore, 0, KINDS * MORES - 1) || !within(so, 0, MOST_LATE) || !isWarm(warm)) return BAD;
        if (truth.size >= MOST_SHOWERS) return FULL;
        truth.enter(kindMore / MORES, kindMore % MORES, so, warm);
        return truth.size - 1;
    }

    public int set(int x, int what, int v) {
        if (!isShower(x)) return NO_SHOWER;
        if (!within(what, LATE, ON) || !within(v, 0, mostOf(what))) return NOT_AS_TOLD;
        int was = truth.numberOf(x, what);
        truth.change(x, what, v);
        return was;
    }

    private static int mostOf(int what) {
        switch (what) {
            case LATE: return MOST_LATE;
            case HASTE: return MOST_HASTE;
            case ON: return 1;
            default: return MOST_WARM;
        }
    }

    public int told(int x, int what) {
        if (!isShower(x)) return NO_SHOWER;
        if (within(what, LATE, ON)) return truth.numberOf(x, what);
        switch (what) {
            case 5: return truth.kind[x];
            case 6: return truth.more[x];
            case 7: return scaldsFrom(truth.kind[x], truth.more[x]);
            default: return NOT_AS_TOLD;
        }
    }

    private boolean isShower(int x) {
        return within(x, 0, truth.size - 1);
    }

    private static boolean isWarm(int v) {
        return within(v, 0, MOST_WARM);
    }

    private static boolean isBeat(int t) {
        return within(t, 0, BEATS - 1);
    }

    private static boolean within(int v, int least, int most) {
        return v >= least && v <= most;
    }

    private static int bounded(int v, int least, int most) {
        if (v < least) return least;
        return v > most ? most : v;
    }

    // ---- kinds

    private static int feltWarm(int kind, int more, int comes, int higher, int beat) {
        int warm = comes;
        if (kind == SHARED || kind == BOILER) warm -= (2 * more + 1) * higher;
        if (kind == BOILER && beat % (Math.max(0, more) + 2) == more + 1) warm /= 2;
        return bounded(warm, 0, MOST_WARM);
    }

    private static int turnedBy(int kind, int more, int far) {
        if (kind == OLD) return 0;
        if (kind == STICKING && Math.abs(far) < 3 * more) return 0;
        if (kind != NOTCHED && kind != STICKING) return far;
        int notch = Math.max(0, more) + 1;
        return far / notch * notch;
    }

    private static int scaldsFrom(int kind, int more) {
        if (kind == BOILER) return 50 + 10 * more;
        if (kind == OLD) return 50 - 4 * more;
        return 50;
    }

    private static boolean isOfKind(int kind, int wantedKind) {
        int k = kind;
        for (int step = 0; step < KINDS && k >= 0 && k < KINDS; step++) {
            if (k == wantedKind) return true;
            k = KIND_ABOVE[k];
        }
        return false;
    }

    // ---- mornings

    private void live(Household house) {
        morning.run(house, lawOf(house), BEATS, NOBODY);
    }

    private void liveWithStill(Household house, int still) {
        morning.run(house, lawOf(house), BEATS, still);
    }

    public int at(int x, int beat, int what) {
        if (!isShower(x)) return FAR_NO_SHOWER;
        if (!isBeat(beat) || !within(what, 0, 2)) return FAR_NOT_AS_TOLD;
        live(truth);
        switch (what) {
            case 0: return morning.felt[x][beat];
            case 1: return morning.setTo[x][beat + 1];
            default: return truth.wanted[x] - morning.felt[x][beat];
        }
    }

    public int day(int x, int what) {
        if (!isShower(x)) return NO_SHOWER;
        if (!within(what, 0, 3)) return NOT_AS_TOLD;
        live(truth);
        switch (what) {
            case 0: return morning.cost[x];
            case 1: return morning.cries[x];
            case 2: return morning.scalded[x];
            default: return morning.mostFelt(x, 0);
        }
    }

    public int rests(int x, int near) {
        if (!isShower(x)) return NO_SHOWER;
        if (!isWarm(near)) return NOT_AS_TOLD;
        live(truth);
        return morning.restsFrom(x, truth.wanted[x], near);
    }

    public int sways(int x) {
        if (!isShower(x)) return NO_SHOWER;
        live(truth);
        return morning.mostFelt(x, SWAY_FROM) - morning.leastFelt(x, SWAY_FROM);
    }

    public int house(int what) {
        if (!within(what, 0, 2)) return BAD;
        live(truth);
        if (what == 0) return morning.costOfAll(truth.size);
        return what == 1 ? morning.criersAtAll(truth.size) : morning.loudestBeat(truth.size);
    }

    public int pass(int n) {
        if (!within(n, 0, BEATS)) return BAD;
        morning.run(truth, lawOf(truth), n, NOBODY);
        for (int x = 0; x < truth.size; x++) truth.set[x] = morning.setTo[x][n];
        return morning.costOfAll(truth.size);
    }

    // ---- haste

    public int best(int x, int what) {
        if (!isShower(x)) return NO_SHOWER;
        if (!within(what, 0, 1)) return NOT_AS_TOLD;
        thought.become(truth);
        return choiceOrCost(bestHaste(x), what);
    }

    /** The least choice of haste for one in the house that is thought of, which has its haste changed by that. */
    private int bestHaste(int x) {
        int least = NO_CHOICE;
        for (int h = 0; h <= MOST_HASTE; h++) {
            thought.haste[x] = h;
            live(thought);
            least = Math.min(least, choice(morning.cost[x], h));
        }
        return least;
    }

    private static int choice(int cost, int of) {
        return cost * CHOICES + of;
    }

    private static int choiceOrCost(int choice, int what) {
        return what == 0 ? choice % CHOICES : choice / CHOICES;
    }

    public int line(int x, int near) {
        if (!isShower(x)) return NO_SHOWER;
        if (!isWarm(near)) return NOT_AS_TOLD;
        thought.become(truth);
        for (int h = MOST_HASTE; h >= 0; h--) {
            if (restsByHaste(x, near, h) != NEVER) return h;
        }
        return NONE;
    }

    private int restsByHaste(int x, int near, int h) {
        thought.haste[x] = h;
        live(thought);
        return morning.restsFrom(x, thought.wanted[x], near);
    }

    public int soon(int x, int near, int what) {
        if (!isShower(x)) return NO_SHOWER;
        if (!isWarm(near) || !within(what, 0, 1)) return NOT_AS_TOLD;
        thought.become(truth);
        int least = NO_CHOICE;
        for (int h = 0; h <= MOST_HASTE; h++) {
            int from = restsByHaste(x, near, h);
            if (from != NEVER) least = Math.min(least, choice(from, h));
        }
        return least == NO_CHOICE ? NONE : choiceOrCost(least, what);
    }

    public int card(int what) {
        if (!within(what, 0, 1)) return BAD;
        thought.become(truth);
        int least = NO_CHOICE;
        for (int h = 0; h <= MOST_HASTE; h++) {
            Arrays.fill(thought.haste, h);
            live(thought);
            least = Math.min(least, choice(morning.costOfAll(thought.size), h));
        }
        return choiceOrCost(least, what);
    }

    public int even(int x, int y, int what) {
        if (!areTwo(x, y)) return NO_SHOWER;
        if (!within(what, 0, 1)) return NOT_AS_TOLD;
        thought.become(truth);
        int changes = 0;
        int unchanged = 0;
        for (int turn = 0; turn < MOST_TURNS && unchanged < 2; turn++) {
            int who = turn % 2 == 0 ? x : y;
            int was = thought.haste[who];
            thought.haste[who] = choiceOrCost(bestHaste(who), 0);
            if (thought.haste[who] == was) {
                unchanged++;
            } else {
                changes++;
                unchanged = 0;
            }
        }
        if (unchanged < 2) return NONE;
        return what == 0 ? changes : 100 * thought.haste[x] + thought.haste[y];
    }

    private boolean areTwo(int x, int y) {
        return isShower(x) && isShower(y) && x != y;
    }

    // ---- who hurts whom

    public int hurts(int x, int y) {
        if (!areTwo(x, y)) return FAR_NO_SHOWER;
        live(truth);
        int cost = morning.cost[y];
        thought.become(truth);
        thought.on[x] = 0;
        live(thought);
        return cost - morning.cost[y];
    }

    public int off(int what) {
        if (!within(what, 0, 1)) return BAD;
        int least = NO_CHOICE;
        for (int x = 0; x < truth.size; x++) {
            if (truth.on[x] == 1) least = Math.min(least, choice(costWithout(x), x));
        }
        return least == NO_CHOICE ? NONE : choiceOrCost(least, what);
    }

    private int costWithout(int x) {
        thought.become(truth);
        thought.on[x] = 0;
        live(thought);
        return morning.costOfAll(thought.size);
    }

    public int stills(int x) {
        if (!isShower(x)) return FAR_NO_SHOWER;
        liveWithStill(truth, x);
        int still = morning.costOfAll(truth.size) - morning.cost[x];
        live(truth);
        return still - (morning.costOfAll(truth.size) - morning.cost[x]);
    }

    public int leave(int x, int what) {
        if (!isShower(x)) return NO_SHOWER;
        if (!within(what, 0, 1)) return NOT_AS_TOLD;
        thought.become(truth);
        int least = NO_CHOICE;
        for (int v = 0; v <= 990; v += 10) {
            thought.set[x] = v;
            liveWithStill(thought, x);
            least = Math.min(least, choice(morning.cost[x], v));
        }
        return choiceOrCost(least, what);
    }

    // ---- told films, cries

    public int judge(int s, int x) {
        int refusal = filmRefusal(s, x);
        if (refusal != 0) return refusal;
        live(truth);
        return firstOther(s, x);
    }

    /** 0, if a sheet tells of thirty beats at most. */
    private int sheetRefusal(int s) {
        if (!isSheet(s)) return BAD;
        if (rowSorts[s] == NO_SORT) return MISSING;
        return rowSizes[s] > BEATS ? BAD : 0;
    }

    private int filmRefusal(int s, int x) {
        int refusal = sheetRefusal(s);
        if (refusal != 0) return refusal;
        return isShower(x) ? 0 : NO_SHOWER;
    }

    /** The first beat that the morning just lived has otherwise than a sheet tells. */
    private int firstOther(int s, int x) {
        int size = Math.min(rowSizes[s], BEATS);
        for (int t = 0; t < size; t++) {
            if (rows[s][t] != morning.felt[x][t]) return t;
        }
        return NONE;
    }

    public int whose(int s) {
        int refusal = sheetRefusal(s);
        if (refusal != 0) return refusal;
        live(truth);
        int bits = 0;
        for (int x = 0; x < truth.size; x++) {
            if (firstOther(s, x) == NONE) bits |= 1 << x;
        }
        return bits;
    }

    /** A bit, if the house that is thought of shows what a sheet tells of one. */
    private int bitIfShown(int s, int x, int bit) {
        live(thought);
        return firstOther(s, x) == NONE ? 1 << bit : 0;
    }

    public int fits(int s, int x, int sort) {
        int refusal = filmRefusal(s, x);
        if (refusal != 0) return refusal;
        if (!within(sort, 0, 1)) return NOT_AS_TOLD;
        int what = sort == 0 ? LATE : HASTE;
        int most = mostOf(what);
        thought.become(truth);
        int bits = 0;
        for (int v = 0; v <= most; v++) {
            thought.change(x, what, v);
            bits |= bitIfShown(s, x, v);
        }
        return bits;
    }

    public int kinds(int s, int x, int sort) {
        int refusal = filmRefusal(s, x);
        if (refusal != 0) return refusal;
        if (!within(sort, 0, 1)) return NOT_AS_TOLD;
        int choices = sort == 0 ? KINDS : MORES;
        thought.become(truth);
        int bits = 0;
        for (int v = 0; v < choices; v++) {
            if (sort == 0) thought.kind[x] = v;
            else thought.more[x] = v;
            bits |= bitIfShown(s, x, v);
        }
        return bits;
    }

    public int laws(int s, int x) {
        int refusal = filmRefusal(s, x);
        if (refusal != 0) return refusal;
        thought.become(truth);
        int bits = 0;
        for (int t = 0; t < textCount; t++) {
            thought.law = t;
            bits |= bitIfShown(s, x, t);
        }
        return bits;
    }

    public int film(int s, int x, int n) {
        if (!isSheet(s)) return BAD;
        if (!isShower(x)) return NO_SHOWER;
        if (!within(n, 0, BEATS)) return NOT_AS_TOLD;
        live(truth);
        rowSorts[s] = INTS;
        rowSizes[s] = n;
        System.arraycopy(morning.felt[x], 0, rows[s], 0, n);
        return n;
    }

    public int criers(int s) {
        int refusal = sheetRefusal(s);
        if (refusal != 0) return refusal;
        live(truth);
        int size = Math.min(rowSizes[s], MOST_CELLS);
        int bits = (1 << truth.size) - 1;
        for (int i = 0; i < size; i++) {
            int beat = rows[s][i];
            bits &= isBeat(beat) ? morning.criersIn(beat, truth.size) : 0;
        }
        return bits;
    }

    public int heard(int s, int x) {
        int refusal = filmRefusal(s, x);
        if (refusal != 0) return refusal;
        int beats = beatsTold(s);
        thought.become(truth);
        int bits = 0;
        for (int late = 0; late <= MOST_LATE; late++) {
            thought.late[x] = late;
            live(thought);
            if (morning.cries[x] == beats) bits |= 1 << late;
        }
        return bits;
    }

    private int beatsTold(int s) {
        int size = Math.min(rowSizes[s], MOST_CELLS);
        int beats = 0;
        for (int i = 0; i < size; i++) {
            if (isBeat(rows[s][i])) beats |= 1 << rows[s][i];
        }
        return beats;
    }

    // ---- mornings by lot

    public int drawn(int seed, int what) {
        if (!within(seed, 0, MOST_SEED) || !within(what, 0, 1)) return BAD;
        thought.become(truth);
        liveDrawn(seed);
        return what == 0 ? morning.costOfAll(thought.size) : morning.criersAtAll(thought.size);
    }

    private void liveDrawn(int seed) {
        long lot = seed + 1L;
        for (int x = 0; x < thought.size; x++) {
            lot = lot * 48271L % 2147483647L;
            thought.set[x] = (int) (lot % 1000L);
        }
        live(thought);
    }

    public long odds(int seed, int seeds, int near, int part) {
        if (!within(seed, 0, MOST_SEED) || !within(seeds, 1, MOST_SEEDS)) return NO;
        if (!isWarm(near) || !within(part, 0, 1)) return NO;
        thought.become(truth);
        int calm = 0;
        for (int k = 0; k < seeds; k++) {
            liveDrawn(seed + k);
            if (allRest(near)) calm++;
        }
        int divisor = Math.max(1, commonDivisor(calm, seeds));
        return part == 0 ? calm / divisor : seeds / divisor;
    }

    private boolean allRest(int near) {
        for (int x = 0; x < thought.size; x++) {
            if (thought.on[x] == 1 && morning.restsFrom(x, thought.wanted[x], near) == NEVER) return false;
        }
        return true;
    }

    /** The greatest number up to the second, by which both can be divided. */
    private static int commonDivisor(int a, int b) {
        for (int d = b; d > 1; d--) {
            if (a % d == 0 && b % d == 0) return d;
        }
        return 1;
    }

    public int image() {
        kept.become(truth);
        imageKept = true;
        return truth.size;
    }

    public int back() {
        if (!imageKept) return STATE;
        truth.become(kept);
        return truth.size;
    }

    // ---- the host

    private static boolean isSheet(int s) {
        return within(s, 0, SHEETS - 1);
    }

    public int sheet(int s, int sort, int n) {
        if (!isSheet(s) || !within(sort, NO_SORT, INTS)) return BAD;
        if (sort == NO_SORT) {
            rowSorts[s] = NO_SORT;
            return 1;
        }
        if (n > MOST_CELLS) return BAD;
        if (n < 0) return BELOW_ZERO;
        rowSorts[s] = sort;
        rowSizes[s] = n;
        Arrays.fill(rows[s], 0);
        return 1;
    }

    public int cell(int s, int i, int v) {
        if (!isSheet(s)) return BAD;
        if (rowSorts[s] == NO_SORT) return MISSING;
        if (!within(i, 0, rowSizes[s] - 1)) return OUTSIDE;
        rows[s][i] = asOfSort(rowSorts[s], v);
        return 1;
    }

    private static int asOfSort(int sort, int v) {
        switch (sort) {
            case BYTES: return (byte) v;
            case SHORTS: return (short) v;
            default: return v;
        }
    }

    public int copy(int s, int i, int other, int j, int n) {
        if (!isSheet(s) || !isSheet(other)) return BAD;
        if (rowSorts[s] == NO_SORT || rowSorts[other] == NO_SORT) return MISSING;
        if (rowSorts[s] != rowSorts[other]) return UNLIKE;
        if (!isStretch(s, i, n) || !isStretch(other, j, n)) return OUTSIDE;
        System.arraycopy(rows[s], i, rows[other], j, n);
        return n;
    }

    private boolean isStretch(int s, int from, int n) {
        return within(n, 0, rowSizes[s]) && within(from, 0, rowSizes[s] - n);
    }

    public int showersBy(int s, int sort, int at, int n) {
        if (!isSheet(s) || !within(sort, BYTES, INTS) || !within(n, 0, MOST_SHOWERS)) return BAD;
        if (rowSorts[s] == NO_SORT) return MISSING;
        if (rowSorts[s] != sort) return UNLIKE;
        int came = 0;
        for (int k = 0; k < n; k++) {
            int from = at + 3 * k;
            if (!isStretch(s, from, 3)) return OUTSIDE;
            if (shower(rows[s][from], rows[s][from + 1], rows[s][from + 2]) >= 0) came++;
        }
        return came;
    }

    public int taken(int i, int kind) {
        if (!within(kind, 0, TAKEN_AS_SET)) return BAD;
        if (!within(i, 0, 2 * MOST_SHOWERS - 1)) return OUTSIDE;
        int x = i % MOST_SHOWERS;
        boolean liesAsSet = i >= MOST_SHOWERS;
        if (!isShower(x) || liesAsSet && truth.on[x] == 0) return MISSING;
        if (liesAsSet) return kind == TAKEN_AS_SET ? truth.set[x] : UNLIKE;
        return isOfKind(truth.kind[x], kind) ? x : UNLIKE;
    }

    /** What is told of the showers: as it truly is, as it is thought to be, as the image keeps it. */
    private static final class Household {
        final int[] kind = new int[MOST_SHOWERS];
        final int[] more = new int[MOST_SHOWERS];
        final int[] late = new int[MOST_SHOWERS];
        final int[] wanted = new int[MOST_SHOWERS];
        final int[] set = new int[MOST_SHOWERS];
        final int[] haste = new int[MOST_SHOWERS];
        final int[] on = new int[MOST_SHOWERS];
        int size = 0;
        int law = 0;

        void become(Household other) {
            if (other == null) return;
            System.arraycopy(other.kind, 0, kind, 0, MOST_SHOWERS);
            System.arraycopy(other.more, 0, more, 0, MOST_SHOWERS);
            System.arraycopy(other.late, 0, late, 0, MOST_SHOWERS);
            System.arraycopy(other.wanted, 0, wanted, 0, MOST_SHOWERS);
            System.arraycopy(other.set, 0, set, 0, MOST_SHOWERS);
            System.arraycopy(other.haste, 0, haste, 0, MOST_SHOWERS);
            System.arraycopy(other.on, 0, on, 0, MOST_SHOWERS);
            size = other.size;
            law = other.law;
        }

        void enter(int itsKind, int itsMore, int itsLate, int itsWanted) {
            if (size >= MOST_SHOWERS) return;
            kind[size] = itsKind;
            more[size] = itsMore;
            late[size] = itsLate;
            wanted[size] = itsWanted;
            set[size] = 0;
            haste[size] = FIRST_HASTE;
            on[size] = 1;
            size++;
        }

        int numberOf(int x, int what) {
            switch (what) {
                case LATE: return late[x];
                case WANTED: return wanted[x];
                case SET: return set[x];
                case HASTE: return haste[x];
                default: return on[x];
            }
        }

        void change(int x, int what, int v) {
            switch (what) {
                case LATE: late[x] = v; break;
                case WANTED: wanted[x] = v; break;
                case SET: set[x] = v; break;
                case HASTE: haste[x] = v; break;
                default: on[x] = v; break;
            }
        }

        int onBits() {
            int bits = 0;
            for (int x = 0; x < size; x++) bits |= on[x] << x;
            return bits;
        }
    }

    /** The beats of all showers, and what came of them. */
    private static final class Morning {
        final int[][] felt = new int[MOST_SHOWERS][BEATS];
        /** What each was set to as a beat began, and behind the last one. */
        final int[][] setTo = new int[MOST_SHOWERS][BEATS + 1];
        final int[] cost = new int[MOST_SHOWERS];
        final int[] cries = new int[MOST_SHOWERS];
        final int[] scalded = new int[MOST_SHOWERS];

        /** The one that is still is never turned. */
        void run(Household house, Law law, int beats, int still) {
            for (int x = 0; x < house.size; x++) {
                setTo[x][0] = house.set[x];
                cost[x] = 0;
                cries[x] = 0;
                scalded[x] = 0;
            }
            int end = Math.min(beats, BEATS);
            for (int t = 0; t < end; t++) {
                for (int x = 0; x < house.size; x++) feel(house, t, x);
                for (int x = 0; x < house.size; x++) {
                    setTo[x][t + 1] = setTo[x][t];
                    if (house.on[x] == 1) liveBeat(house, law, t, x, x == still);
                }
            }
        }

        private void feel(Household house, int t, int x) {
            int comes = setTo[x][Math.max(0, t - Math.max(0, house.late[x]))];
            felt[x][t] = feltWarm(house.kind[x], house.more[x], comes, higherThan(house, t, x), t);
        }

        private int higherThan(Household house, int t, int x) {
            int higher = 0;
            for (int y = 0; y < house.size; y++) {
                if (house.on[y] == 1 && setTo[y][t] > setTo[x][t]) higher++;
            }
            return higher;
        }

        private void liveBeat(Household house, Law law, int t, int x, boolean still) {
            int cold = house.wanted[x] - felt[x][t];
            int was = house.wanted[x] - felt[x][Math.max(0, t - 1)];
            law.hear(cold, was, setTo[x][t], t, house.late[x], house.more[x]);
            cost[x] += law.says(Law.COSTS);
            if (law.says(Law.YELLS) == 1) cries[x] |= 1 << t;
            if (-cold >= scaldsFrom(house.kind[x], house.more[x])) scalded[x]++;
            if (still) return;
            int far = law.says(Law.TURNS) * house.haste[x] / 8;
            setTo[x][t + 1] = bounded(setTo[x][t] + turnedBy(house.kind[x], house.more[x], far), 0, MOST_WARM);
        }

        int mostFelt(int x, int from) {
            int most = 0;
            for (int t = Math.max(0, from); t < BEATS; t++) most = Math.max(most, felt[x][t]);
            return most;
        }

        int leastFelt(int x, int from) {
            int least = MOST_WARM;
            for (int t = Math.max(0, from); t < BEATS; t++) least = Math.min(least, felt[x][t]);
            return least;
        }

        int restsFrom(int x, int wanted, int near) {
            int from = BEATS;
            for (int t = BEATS - 1; t >= 0 && Math.abs(wanted - felt[x][t]) <= near; t--) from = t;
            return from < BEATS ? from : NEVER;
        }

        int costOfAll(int size) {
            int sum = 0;
            for (int x = 0; x < size && x < MOST_SHOWERS; x++) sum += cost[x];
            return sum;
        }

        int criersAtAll(int size) {
            int bits = 0;
            for (int x = 0; x < size && x < MOST_SHOWERS; x++) {
                if (cries[x] != 0) bits |= 1 << x;
            }
            return bits;
        }

        int criersIn(int beat, int size) {
            int bits = 0;
            for (int x = 0; x < size && x < MOST_SHOWERS; x++) bits |= (cries[x] >> beat & 1) << x;
            return bits;
        }

        int loudestBeat(int size) {
            int loudest = NONE;
            int most = 0;
            for (int t = 0; t < BEATS; t++) {
                int crying = Integer.bitCount(criersIn(t, size));
                if (crying > most) {
                    most = crying;
                    loudest = t;
                }
            }
            return loudest;
        }
    }

    /** A text that was read: its three parts as steps over a stack, one behind the other. */
    private static final class Law {
        static final int TURNS = 0, COSTS = 1, YELLS = 2, PARTS = 3;
        static final int NAMES = 6, FIRST_NAME = 10000, FIRST_STEP = 20000;
        static final int OR = FIRST_STEP, AND = FIRST_STEP + 1, LESS = FIRST_STEP + 2, LIKE = FIRST_STEP + 3,
            PLUS = FIRST_STEP + 4, MINUS = FIRST_STEP + 5, TIMES = FIRST_STEP + 6,
            NOT = FIRST_STEP + 7, NEGATED = FIRST_STEP + 8;
        /** Five things open, with five numbers waiting in each and outside of them, need 31 places. */
        static final int STACK = 40;

        private final int[] steps;
        private final int[] starts;
        private final int[] names = new int[NAMES];
        private final int[] stack = new int[STACK];

        Law(int[] steps, int[] starts) {
            this.steps = steps;
            this.starts = starts;
        }

        void hear(int cold, int was, int set, int beat, int late, int more) {
            names[0] = cold;
            names[1] = was;
            names[2] = set;
            names[3] = beat;
            names[4] = late;
            names[5] = more;
        }

        int says(int part) {
            if (part < TURNS || part > YELLS) return 0;
            int top = 0;
            int end = Math.min(starts[part + 1], steps.length);
            for (int i = Math.max(0, starts[part]); i < end; i++) {
                int step = steps[i];
                if (step < FIRST_STEP) {
                    if (top < STACK) stack[top++] = known(step);
                } else if (step == NOT) {
                    if (top > 0) stack[top - 1] = stack[top - 1] == 0 ? 1 : 0;
                } else if (step == NEGATED) {
                    if (top > 0) stack[top - 1] = -stack[top - 1];
                } else if (top > 1) {
                    top--;
                    stack[top - 1] = joined(step, stack[top - 1], stack[top]);
                }
            }
            int value = top > 0 ? stack[top - 1] : 0;
            if (part == TURNS) return bounded(value, -99, 99);
            if (part == COSTS) return bounded(value, 0, 99);
            return value != 0 ? 1 : 0;
        }

        private int known(int step) {
            int name = step - FIRST_NAME;
            return name >= 0 && name < NAMES ? names[name] : step;
        }

        private static int joined(int step, int left, int right) {
            switch (step) {
                case OR: return left != 0 || right != 0 ? 1 : 0;
                case AND: return left != 0 && right != 0 ? 1 : 0;
                case LESS: return left < right ? 1 : 0;
                case LIKE: return left == right ? 1 : 0;
                case PLUS: return left + right;
                case MINUS: return left - right;
                default: return left * right;
            }
        }
    }

    /** Reads a text token by token; where it stops too early, the token's place is the fault. */
    private static final class Reader {
        static final int END = 0, WRONG = 1, NUMBER = 2, OPEN = 3, SHUT = 4, STOP = 5, PLUS = 6, MINUS = 7,
            TIMES = 8, LESS = 9, LIKE = 10, TURNS = 11, COSTS = 12, YELLS = 13, OR = 14, AND = 15, NOT = 16,
            COLD = 17, WAS = 18, SET_NOW = 19, BEAT = 20, LATE_BY = 21, MORE = 22;
        static final int MOST_DIGITS = 4, MOST_OPEN = 5;

        private int[] bytes = new int[0];
        private int size = 0;
        private int place = 0;
        private int behind = 0;
        private int token = END;
        private int number = 0;
        private int open = 0;
        private final int[] steps = new int[MOST_BYTES];
        private int stepCount = 0;
        private final int[] starts = new int[Law.PARTS + 1];

        /** The place of the fault, or -1. */
        int read(int[] theBytes, int theSize) {
            if (theBytes == null) return 0;
            bytes = theBytes;
            size = bounded(theSize, 0, theBytes.length);
            behind = 0;
            open = 0;
            stepCount = 0;
            advance();
            for (int part = 0; part < Law.PARTS; part++) {
                starts[part] = stepCount;
                if (!skip(TURNS + part) || !readEither() || !skip(STOP)) return place;
            }
            starts[Law.PARTS] = stepCount;
            return token == END ? -1 : place;
        }

        /** What was read last. */
        Law law() {
            return new Law(Arrays.copyOf(steps, Math.max(0, stepCount)), starts.clone());
        }

        private boolean skip(int wantedToken) {
            if (token != wantedToken) return false;
            advance();
            return true;
        }

        private boolean put(int step) {
            if (stepCount >= MOST_BYTES) return false;
            steps[stepCount++] = step;
            return true;
        }

        private boolean readEither() {
            if (!readBoth()) return false;
            for (int i = 0; i < MOST_BYTES && token == OR; i++) {
                advance();
                if (!readBoth() || !put(Law.OR)) return false;
            }
            return true;
        }

        private boolean readBoth() {
            if (!readNot()) return false;
            for (int i = 0; i < MOST_BYTES && token == AND; i++) {
                advance();
                if (!readNot() || !put(Law.AND)) return false;
            }
            return true;
        }

        private boolean readNot() {
            if (token == NOT) {
                if (!opens()) return false;
                return readNot() && closes() && put(Law.NOT);
            }
            if (!readSum()) return false;
            if (token != LESS && token != LIKE) return true;
            int step = token == LESS ? Law.LESS : Law.LIKE;
            advance();
            return readSum() && put(step);
        }

        private boolean readSum() {
            if (!readTerm()) return false;
            for (int i = 0; i < MOST_BYTES && (token == PLUS || token == MINUS); i++) {
                int step = token == PLUS ? Law.PLUS : Law.MINUS;
                advance();
                if (!readTerm() || !put(step)) return false;
            }
            return true;
        }

        private boolean readTerm() {
            if (!readOne()) return false;
            for (int i = 0; i < MOST_BYTES && token == TIMES; i++) {
                advance();
                if (!readOne() || !put(Law.TIMES)) return false;
            }
            return true;
        }

        private boolean readOne() {
            if (token == NUMBER) return put(number) && skip(NUMBER);
            if (within(token, COLD, MORE)) return put(Law.FIRST_NAME + token - COLD) && skip(token);
            if (token == MINUS) {
                if (!opens()) return false;
                return readOne() && closes() && put(Law.NEGATED);
            }
            if (token != OPEN || !opens()) return false;
            return readEither() && skip(SHUT) && closes();
        }

        private boolean opens() {
            if (open >= MOST_OPEN) return false;
            open++;
            advance();
            return true;
        }

        private boolean closes() {
            open--;
            return true;
        }

        private void advance() {
            place = behind;
            for (int i = 0; i < MOST_BYTES && place < size && isBlank(bytes[place]); i++) place++;
            behind = place;
            if (place >= size) {
                token = END;
            } else if (isLetter(bytes[place])) {
                for (int i = 0; i < MOST_BYTES && behind < size && isLetter(bytes[behind]); i++) behind++;
                token = wordHere();
            } else if (isDigit(bytes[place])) {
                readNumber();
            } else {
                token = signOf(bytes[place]);
                behind = place + 1;
            }
        }

        private void readNumber() {
            number = 0;
            for (int i = 0; i < MOST_BYTES && behind < size && isDigit(bytes[behind]); i++) {
                number = number * 10 + bytes[behind] - '0';
                behind++;
            }
            token = behind - place > MOST_DIGITS ? WRONG : NUMBER;
        }

        private static boolean isBlank(int b) {
            return b == 32 || b == 10;
        }

        private static boolean isLetter(int b) {
            return b >= 'a' && b <= 'z';
        }

        private static boolean isDigit(int b) {
            return b >= '0' && b <= '9';
        }

        private static int signOf(int b) {
            switch (b) {
                case '(': return OPEN;
                case ')': return SHUT;
                case ';': return STOP;
                case '+': return PLUS;
                case '-': return MINUS;
                case '*': return TIMES;
                case '<': return LESS;
                case '=': return LIKE;
                default: return WRONG;
            }
        }

        private int wordHere() {
            if (spells("turns")) return TURNS;
            if (spells("costs")) return COSTS;
            if (spells("yells")) return YELLS;
            if (spells("or")) return OR;
            if (spells("and")) return AND;
            if (spells("not")) return NOT;
            if (spells("cold")) return COLD;
            if (spells("was")) return WAS;
            if (spells("set")) return SET_NOW;
            if (spells("beat")) return BEAT;
            if (spells("late")) return LATE_BY;
            return spells("more") ? MORE : WRONG;
        }

        private boolean spells(String word) {
            int length = word.length();
            if (behind - place != length || behind > bytes.length) return false;
            for (int i = 0; i < length; i++) {
                if (bytes[place + i] != word.charAt(i)) return false;
            }
            return true;
        }
    }
}
