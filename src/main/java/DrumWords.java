import java.util.Arrays;

/**
 * A small machine whose program lies on a drum that turns under one head. The document's promises
 * say what each call answers; its terms stand here in capitals.
 */
public final class DrumWords {
    public static final int BAD = -1, FULL = -2, FINDING = -3, STATE = -4, SPENT = -6, NONE = -9;

    private static final int NOTHING = 1, BEYOND = 2, UNLIKE = 3, NOUGHT = 4, SIZE = 5;
    private static final int ROWS = 6, ROW_MOST = 40, TEXTS = 4, TEXT_MOST = 60, KEPT = 3;
    private static final int MISSING = -1;
    /** More beats than any STEPS can take. */
    private static final int BEYOND_ALL = 1000000;
    private static final int WORDS_LEAST = 2, WORDS_MOST = 6, PLACES_LEAST = 6, PLACES_MOST = 9;
    private static final int DEEDS_MOST = 40, STEPS_MOST = 40, READS_MOST = 80;
    private static final int PLACED_STEPS_MOST = 12, WATCHED_STEPS_MOST = 12;
    private static final int TURNS_MOST = 3, DUEL_STEPS = 8;
    private static final int TIMES_MOST = 6, BEATS_MOST = 999;
    private static final int CHANCE_STEPS_MOST = 3, CHANCE_READS_MOST = 6, TWELFTHS = 12;
    private static final int LOTS_MOST = 20;
    private static final long LOTS_FACTOR = 48271L, LOTS_MODULUS = 2147483647L;
    private static final int VALUE_MOST = 99, LEFT_OVER = 100, TEST_FROM = 50;
    private static final int NUMBER = 0, ADD = 1, JUMP = 2, STORE = 3, TIMES = 4, TEST = 5;
    private static final int KINDS = 6, COUNTS = 11, TOLD_OF_A_WORD = 6;
    private static final int STEP = 0, MOVE = 1, SWAP = 2, VALUE = 3;
    private static final int BLANK = 32, DRUM_LETTER = 100, FIGURE_NOUGHT = 48;
    private static final int[] LETTERS = {110, 97, 106, 115, 116, 101};
    /** Each KIND is also one of the KIND told here, the NUMBER of no other one. */
    private static final int[] KIND_ABOVE = {NONE, NUMBER, NUMBER, ADD, ADD, JUMP};

    private final int[][] rows = new int[ROWS][ROW_MOST];
    private final int[] rowSizes = new int[ROWS];
    private final byte[][] texts = new byte[TEXTS][TEXT_MOST];
    private final int[] textSizes = new int[TEXTS];
    private final Drum drum = new Drum();
    private final Drum[] kept = new Drum[KEPT];
    private final Machine aside = new Machine();
    private final Reader reader = new Reader();
    private final Trace trace = new Trace();
    private final Placing placing = new Placing(trace);
    private final int[] clocks = new int[PLACES_MOST];
    private final long[] missWays = new long[CHANCE_READS_MOST + 1];
    private final int[] findingCounts = new int[SIZE + 1];
    private int latestFinding = 0;
    private int told = 0;
    private long upperTold = 0;
    private long lowerTold = 1;

    public DrumWords() {
        Arrays.fill(rowSizes, MISSING);
        Arrays.fill(textSizes, MISSING);
        for (int k = 0; k < KEPT; k++) {
            kept[k] = new Drum();
        }
    }

    // ---- 1 rows, texts, drums

    public int row(int r, int n) {
        if (!isRow(r) || n > ROW_MOST) {
            return BAD;
        }
        if (n < 0) {
            return refuse(SIZE);
        }
        Arrays.fill(rows[r], 0);
        rowSizes[r] = n;
        return n;
    }

    public int lay(int r, int i, int v) {
        int refused = refusedPlace(r, i);
        if (refused != 0) {
            return refused;
        }
        told = rows[r][i];
        rows[r][i] = v;
        return 1;
    }

    public int at(int r, int i) {
        int refused = refusedPlace(r, i);
        if (refused != 0) {
            return refused;
        }
        told = rows[r][i];
        return 1;
    }

    public int tear(int r) {
        if (!isRow(r)) {
            return BAD;
        }
        if (rowSizes[r] == MISSING) {
            return refuse(NOTHING);
        }
        rowSizes[r] = MISSING;
        return 1;
    }

    public int copy(int r, int i, int to, int j, int n) {
        if (!isRow(r) || !isRow(to)) {
            return BAD;
        }
        if (n < 0) {
            return refuse(SIZE);
        }
        if (rowSizes[r] == MISSING || rowSizes[to] == MISSING) {
            return refuse(NOTHING);
        }
        if (!rowHolds(r, i, n) || !rowHolds(to, j, n)) {
            return refuse(BEYOND);
        }
        System.arraycopy(rows[r], i, rows[to], j, n);
        return 1;
    }

    public int mean(int r) {
        if (!isRow(r)) {
            return BAD;
        }
        if (rowSizes[r] == MISSING) {
            return refuse(NOTHING);
        }
        if (rowSizes[r] == 0) {
            return refuse(NOUGHT);
        }
        long all = 0;
        for (int i = 0; i < rowSizes[r]; i++) {
            all += rows[r][i];
        }
        told = (int) (all / rowSizes[r]);
        return 1;
    }

    public int text(int t, int n) {
        if (!isText(t) || n > TEXT_MOST) {
            return BAD;
        }
        if (n < 0) {
            return refuse(SIZE);
        }
        Arrays.fill(texts[t], (byte) BLANK);
        textSizes[t] = n;
        return n;
    }

    public int put(int t, int i, int v) {
        if (!isText(t)) {
            return BAD;
        }
        if (textSizes[t] == MISSING) {
            return refuse(NOTHING);
        }
        if (!isWithin(i, 0, textSizes[t] - 1)) {
            return refuse(BEYOND);
        }
        int was = texts[t][i];
        texts[t][i] = (byte) v;
        return was + 1000;
    }

    public int fault(int t) {
        if (!isText(t)) {
            return BAD;
        }
        if (textSizes[t] == MISSING) {
            return refuse(NOTHING);
        }
        return reader.faultOf(texts[t], textSizes[t]);
    }

    public int drum(int t) {
        if (!isText(t)) {
            return BAD;
        }
        if (textSizes[t] == MISSING) {
            return refuse(NOTHING);
        }
        if (reader.faultOf(texts[t], textSizes[t]) != NONE) {
            return STATE;
        }
        drum.begin(reader.draft);
        for (int k = 0; k < KEPT; k++) {
            kept[k].drop();
        }
        return drum.now.words;
    }

    public int word(int i, int what) {
        if (!drum.now.has(i) || !isWithin(what, 0, TOLD_OF_A_WORD - 1)) {
            return BAD;
        }
        told = drum.now.tellWord(i, what);
        return 1;
    }

    public int mark(int i, int kind) {
        if (!drum.now.has(i) || !isWithin(kind, ADD, TEST)) {
            return BAD;
        }
        if (!drum.now.isOf(i, kind)) {
            return refuse(UNLIKE);
        }
        return drum.now.markOf(i, kind);
    }

    public int waits(int i, int b) {
        if (!drum.now.has(i) || !isWithin(b, 0, BEATS_MOST)) {
            return BAD;
        }
        return waitFor(drum.now.spots[i], b, drum.now.places);
    }

    // ---- 2 deeds

    public int step() {
        if (hasNoWords() || drum.now.due == NONE) {
            return STATE;
        }
        return drum.doDeed(STEP, 0, 0);
    }

    public int move(int i, int place) {
        if (!drum.now.has(i) || !isWithin(place, 0, drum.now.places - 1)) {
            return BAD;
        }
        if (!drum.now.isFree(place)) {
            return STATE;
        }
        return drum.doDeed(MOVE, i, place);
    }

    public int swap(int i, int j) {
        if (!drum.now.has(i) || !drum.now.has(j) || i == j) {
            return BAD;
        }
        return drum.doDeed(SWAP, i, j);
    }

    public int value(int i, int v) {
        if (!drum.now.has(i) || !isWithin(v, 0, VALUE_MOST)) {
            return BAD;
        }
        return drum.doDeed(VALUE, i, v);
    }

    public int undo(int n) {
        if (!isWithin(n, 0, drum.deeds)) {
            return BAD;
        }
        int undone = drum.deeds - n;
        drum.goBackTo(n);
        return undone;
    }

    public int keep(int k) {
        if (!isWithin(k, 0, KEPT - 1)) {
            return BAD;
        }
        if (hasNoWords()) {
            return STATE;
        }
        kept[k].become(drum);
        return drum.deeds;
    }

    public int on(int k) {
        if (!isWithin(k, 0, KEPT - 1)) {
            return BAD;
        }
        if (kept[k].isMissing()) {
            return refuse(NOTHING);
        }
        drum.become(kept[k]);
        return drum.deeds;
    }

    // ---- 3 steps to come

    public int takes(int n) {
        int refused = refusedSteps(n, STEPS_MOST);
        if (refused != 0) {
            return refused;
        }
        followSteps(n);
        told = aside.sum;
        return trace.beatsOf(drum.now.spots, n);
    }

    public int idle(int n) {
        int refused = refusedSteps(n, STEPS_MOST);
        if (refused != 0) {
            return refused;
        }
        followSteps(n);
        int all = trace.beatsOf(drum.now.spots, n);
        int waited = all - trace.busyBeats();
        tellShare(waited, all);
        return waited;
    }

    public int stops() {
        if (hasNoWords()) {
            return STATE;
        }
        followSteps(STEPS_MOST);
        return aside.due == NONE ? trace.steps : NONE;
    }

    public int when(int i, int v) {
        if (!drum.now.has(i) || !isWithin(v, 0, VALUE_MOST)) {
            return BAD;
        }
        aside.become(drum.now);
        for (int s = 0; s < STEPS_MOST && aside.values[i] < v && aside.due != NONE; s++) {
            aside.doStep();
        }
        if (aside.values[i] < v) {
            return NONE;
        }
        told = aside.beat - drum.now.beat;
        return aside.steps - drum.now.steps;
    }

    // ---- 4 placings

    public int place(int i, int n) {
        if (!drum.now.has(i) || !isWithin(n, 0, STEPS_MOST)) {
            return BAD;
        }
        followSteps(n);
        placing.begin(drum.now);
        int best = NONE;
        int fewest = BEYOND_ALL;
        for (int p = 0; p < drum.now.places; p++) {
            if (drum.now.mayLie(i, p)) {
                placing.spots[i] = p;
                int beats = trace.beatsOf(placing.spots, n);
                if (beats < fewest) {
                    best = p;
                    fewest = beats;
                }
            }
        }
        told = fewest;
        return best;
    }

    public int best(int n) {
        int refused = refusedSteps(n, STEPS_MOST);
        if (refused != 0) {
            return refused;
        }
        followSteps(n);
        placing.begin(drum.now);
        int pair = NONE;
        int fewest = trace.beatsOf(placing.spots, n);
        for (int i = 0; i < drum.now.words; i++) {
            for (int j = i + 1; j < drum.now.words; j++) {
                exchange(placing.spots, i, j);
                int beats = trace.beatsOf(placing.spots, n);
                exchange(placing.spots, i, j);
                if (beats < fewest) {
                    pair = 10 * i + j;
                    fewest = beats;
                }
            }
        }
        if (pair != NONE) {
            told = fewest;
        }
        return pair;
    }

    public int least(int n, int r) {
        int refused = isRow(r) ? refusedSteps(n, PLACED_STEPS_MOST) : BAD;
        if (refused != 0) {
            return refused;
        }
        followSteps(n);
        placing.begin(drum.now);
        placing.findShortest();
        layPlaces(r, placing.shortest);
        return trace.beatsOf(placing.shortest, n);
    }

    public int clerk(int n, int r) {
        int refused = isRow(r) ? refusedSteps(n, PLACED_STEPS_MOST) : BAD;
        if (refused != 0) {
            return refused;
        }
        followSteps(n);
        placing.begin(drum.now);
        placing.layByFirstUse();
        layPlaces(r, placing.spots);
        return trace.beatsOf(placing.spots, n);
    }

    // ---- 5 where a word lies

    public int lies(int i, int r) {
        int refused = refusedTimes(i, r);
        if (refused != 0) {
            return refused;
        }
        followSteps(rowSizes[r]);
        placing.begin(drum.now);
        int bits = 0;
        for (int p = 0; p < drum.now.places; p++) {
            if (drum.now.mayLie(i, p)) {
                placing.spots[i] = p;
                if (trace.fits(placing.spots, rows[r], rowSizes[r])) {
                    bits |= 1 << p;
                }
            }
        }
        return bits;
    }

    public int kinds(int i, int r) {
        int refused = refusedTimes(i, r);
        if (refused != 0) {
            return refused;
        }
        int bits = 0;
        for (int k = 0; k < KINDS; k++) {
            aside.become(drum.now);
            // the WITH, NEXT of a NUMBER are 0 from the start
            aside.kindOf[i] = k;
            trace.follow(aside, rowSizes[r]);
            if (trace.fits(drum.now.spots, rows[r], rowSizes[r])) {
                bits |= 1 << k;
            }
        }
        return bits;
    }

    public int watch(int i) {
        if (!drum.now.has(i)) {
            return BAD;
        }
        followSteps(WATCHED_STEPS_MOST);
        placing.begin(drum.now);
        beginClocks(i);
        int best = NONE;
        int leastPart = BEYOND_ALL;
        for (int s = 0; s < WATCHED_STEPS_MOST; s++) {
            turnClocks(i, s);
            int part = greatestPart();
            if (part < leastPart) {
                best = s + 1;
                leastPart = part;
            }
        }
        told = leastPart;
        return best;
    }

    // ---- 6 by turns

    public int duel(int n) {
        int refused = refusedSteps(n, TURNS_MOST);
        if (refused != 0) {
            return refused;
        }
        followSteps(DUEL_STEPS);
        placing.begin(drum.now);
        return Placing.play(placing, n, true, -BEYOND_ALL, BEYOND_ALL);
    }

    // ---- 7 chances, lots

    public int odds(int n, int v, int p) {
        int refused = isWithin(v, 0, BEATS_MOST) ? refusedChances(n, p) : BAD;
        if (refused != 0) {
            return refused;
        }
        followSteps(n);
        int beats = trace.beatsOf(drum.now.spots, n);
        long ways = 1;
        Arrays.fill(missWays, 0);
        missWays[0] = 1;
        for (int k = 0; k < trace.reads && k < CHANCE_READS_MOST; k++) {
            spreadMiss(p);
            ways *= TWELFTHS;
        }
        long inTime = 0;
        for (int m = 0; m <= CHANCE_READS_MOST; m++) {
            if (beats + m * drum.now.places <= v) {
                inTime += missWays[m];
            }
        }
        tellShare(inTime, ways);
        return 1;
    }

    public int mid(int n, int p) {
        int refused = refusedChances(n, p);
        if (refused != 0) {
            return refused;
        }
        followSteps(n);
        int beats = trace.beatsOf(drum.now.spots, n);
        tellShare((long) beats * TWELFTHS + (long) trace.reads * drum.now.places * p, TWELFTHS);
        return 1;
    }

    public int lots(int n, int seed) {
        if (!isWithin(n, 1, LOTS_MOST) || !isWithin(seed, 1, (int) LOTS_MODULUS - 1)) {
            return BAD;
        }
        if (hasNoWords()) {
            return STATE;
        }
        if (drum.deeds + n > DEEDS_MOST) {
            return FULL;
        }
        long lot = seed;
        for (int k = 0; k < n; k++) {
            lot = LOTS_FACTOR * lot % LOTS_MODULUS;
            doLot(lot);
        }
        return drum.now.beat;
    }

    // ---- 8 what is told

    public int asked() {
        return told;
    }

    public long upper() {
        return upperTold;
    }

    public long lower() {
        return lowerTold;
    }

    public int count(int what) {
        switch (what) {
            case 0: return drum.now.words;
            case 1: return drum.now.places;
            case 2: return drum.deeds;
            case 3: return drum.now.beat;
            case 4: return drum.now.sum;
            case 5: return drum.now.due;
            case 6: return drum.now.steps;
            case 7: return drum.now.adds();
            case 8: return thereOf(rowSizes);
            case 9: return thereOf(textSizes);
            case 10: return keptDrums();
            default: return BAD;
        }
    }

    public int finding() {
        return latestFinding;
    }

    public int findings(int f) {
        return isWithin(f, NOTHING, SIZE) ? findingCounts[f] : BAD;
    }

    public long digest() {
        long h = 17;
        for (int c = 0; c < COUNTS; c++) {
            h = 31 * h + count(c);
        }
        for (int i = 0; i < drum.now.words; i++) {
            for (int what = 0; what < TOLD_OF_A_WORD; what++) {
                h = 31 * h + drum.now.tellWord(i, what);
            }
        }
        for (int k = 0; k < KEPT; k++) {
            h = 31 * h + (kept[k].isMissing() ? MISSING : kept[k].deeds);
        }
        for (int r = 0; r < ROWS; r++) {
            h = 31 * h + rowSizes[r];
            for (int i = 0; i < rowSizes[r]; i++) {
                h = 31 * h + rows[r][i];
            }
        }
        for (int t = 0; t < TEXTS; t++) {
            h = 31 * h + textSizes[t];
            for (int i = 0; i < textSizes[t]; i++) {
                h = 31 * h + texts[t][i];
            }
        }
        return h;
    }

    // ---- what the calls share

    private static boolean isWithin(int x, int low, int high) {
        return low <= x && x <= high;
    }

    private static boolean isRow(int r) {
        return isWithin(r, 0, ROWS - 1);
    }

    private static boolean isText(int t) {
        return isWithin(t, 0, TEXTS - 1);
    }

    /** Without WORDS there are no PLACES: nothing is waited then, rather than divided by 0. */
    private static int waitFor(int place, int beat, int places) {
        return places > 0 ? Math.floorMod(place - beat, places) : 0;
    }

    private static int lyingAt(int[] spots, int words, int spot) {
        for (int i = 0; i < words; i++) {
            if (spots[i] == spot) {
                return i;
            }
        }
        return NONE;
    }

    private static void exchange(int[] spots, int i, int j) {
        int was = spots[i];
        spots[i] = spots[j];
        spots[j] = was;
    }

    private boolean hasNoWords() {
        return drum.isMissing();
    }

    private int refuse(int finding) {
        latestFinding = finding;
        findingCounts[finding]++;
        return FINDING;
    }

    /** 0, if place i of a ROW is there. */
    private int refusedPlace(int r, int i) {
        if (!isRow(r)) {
            return BAD;
        }
        if (rowSizes[r] == MISSING) {
            return refuse(NOTHING);
        }
        return isWithin(i, 0, rowSizes[r] - 1) ? 0 : refuse(BEYOND);
    }

    /** Told by taking away, since i and n together may be more than an int holds. */
    private boolean rowHolds(int r, int i, int n) {
        return i >= 0 && i <= rowSizes[r] - n;
    }

    /** 0, if there are WORDS, and so many can be asked for. */
    private int refusedSteps(int n, int most) {
        if (!isWithin(n, 0, most)) {
            return BAD;
        }
        return hasNoWords() ? STATE : 0;
    }

    private int refusedChances(int n, int p) {
        return isWithin(p, 0, TWELFTHS) ? refusedSteps(n, CHANCE_STEPS_MOST) : BAD;
    }

    /** 0, if there is such a WORD and the ROW tells at which beats STEPS were done. */
    private int refusedTimes(int i, int r) {
        if (!drum.now.has(i) || !isRow(r)) {
            return BAD;
        }
        if (rowSizes[r] == MISSING) {
            return refuse(NOTHING);
        }
        if (!isWithin(rowSizes[r], 1, TIMES_MOST)) {
            return refuse(SIZE);
        }
        for (int k = 0; k < rowSizes[r]; k++) {
            if (!isWithin(rows[r][k], 0, BEATS_MOST)) {
                return refuse(UNLIKE);
            }
        }
        return 0;
    }

    private void layPlaces(int r, int[] spots) {
        System.arraycopy(spots, 0, rows[r], 0, drum.now.words);
        rowSizes[r] = drum.now.words;
    }

    private void followSteps(int n) {
        aside.become(drum.now);
        trace.follow(aside, n);
    }

    private void tellShare(long part, long whole) {
        if (part == 0 || whole <= 0) {
            upperTold = 0;
            lowerTold = 1;
            return;
        }
        long a = part;
        long b = whole;
        // the lesser of two longs is halved by two such cuts: 200 are never needed
        for (int k = 0; k < 200 && b != 0; k++) {
            long left = a % b;
            a = b;
            b = left;
        }
        upperTold = part / a;
        lowerTold = whole / a;
    }

    /** A clock for each PLACE at which the WORD can lie; NONE, if it can't lie there. */
    private void beginClocks(int i) {
        for (int p = 0; p < PLACES_MOST; p++) {
            boolean may = p < drum.now.places && drum.now.mayLie(i, p);
            clocks[p] = may ? drum.now.beat : NONE;
        }
    }

    private void turnClocks(int i, int step) {
        for (int p = 0; p < PLACES_MOST; p++) {
            if (clocks[p] != NONE) {
                placing.spots[i] = p;
                clocks[p] = trace.beatBehind(placing.spots, clocks[p], step);
            }
        }
    }

    private int greatestPart() {
        int greatest = 0;
        for (int p = 0; p < PLACES_MOST; p++) {
            int alike = 0;
            for (int q = 0; q < PLACES_MOST && clocks[p] != NONE; q++) {
                if (clocks[q] == clocks[p]) {
                    alike++;
                }
            }
            greatest = Math.max(greatest, alike);
        }
        return greatest;
    }

    /** One READING more, of which p of 12 miss. */
    private void spreadMiss(int p) {
        for (int m = CHANCE_READS_MOST; m >= 0; m--) {
            long missed = m > 0 ? missWays[m - 1] * p : 0;
            missWays[m] = missWays[m] * (TWELFTHS - p) + missed;
        }
    }

    private void doLot(long lot) {
        int words = drum.now.words;
        if (lot % 3 != 0 && drum.now.due != NONE) {
            drum.doDeed(STEP, 0, 0);
        } else if (words > 0) {
            int i = (int) (lot / 8 % words);
            drum.doDeed(SWAP, i, (i + 1) % words);
        }
    }

    private static int thereOf(int[] sizes) {
        int there = 0;
        for (int k = 0; k < sizes.length; k++) {
            if (sizes[k] != MISSING) {
                there++;
            }
        }
        return there;
    }

    private int keptDrums() {
        int there = 0;
        for (int k = 0; k < KEPT; k++) {
            if (!kept[k].isMissing()) {
                there++;
            }
        }
        return there;
    }

    /** The WORDS, where they lie, and how far the machine has come. */
    private static final class Machine {
        private int words = 0;
        private int places = 0;
        private int beat = 0;
        private int sum = 0;
        private int due = NONE;
        private int steps = 0;
        private final int[] kindOf = new int[WORDS_MOST];
        private final int[] spots = new int[WORDS_MOST];
        private final int[] values = new int[WORDS_MOST];
        private final int[] with = new int[WORDS_MOST];
        private final int[] next = new int[WORDS_MOST];
        private final int[] done = new int[WORDS_MOST];

        private void become(Machine other) {
            words = other.words;
            places = other.places;
            beat = other.beat;
            sum = other.sum;
            due = other.due;
            steps = other.steps;
            System.arraycopy(other.kindOf, 0, kindOf, 0, WORDS_MOST);
            System.arraycopy(other.spots, 0, spots, 0, WORDS_MOST);
            System.arraycopy(other.values, 0, values, 0, WORDS_MOST);
            System.arraycopy(other.with, 0, with, 0, WORDS_MOST);
            System.arraycopy(other.next, 0, next, 0, WORDS_MOST);
            System.arraycopy(other.done, 0, done, 0, WORDS_MOST);
        }

        private boolean has(int i) {
            return isWithin(i, 0, words - 1);
        }

        private boolean isFree(int spot) {
            return lyingAt(spots, words, spot) == NONE;
        }

        private boolean mayLie(int i, int spot) {
            return spots[i] == spot || isFree(spot);
        }

        private boolean isOf(int i, int kind) {
            int k = kindOf[i];
            for (int up = 0; up < KINDS && isWithin(k, 0, KINDS - 1); up++) {
                if (k == kind) {
                    return true;
                }
                k = KIND_ABOVE[k];
            }
            return false;
        }

        private int adds() {
            int adds = 0;
            for (int i = 0; i < words; i++) {
                if (isOf(i, ADD)) {
                    adds++;
                }
            }
            return adds;
        }

        private int tellWord(int i, int what) {
            boolean isNumber = kindOf[i] == NUMBER;
            switch (what) {
                case 0: return kindOf[i];
                case 1: return spots[i];
                case 2: return values[i];
                case 3: return isNumber ? NONE : with[i];
                case 4: return isNumber ? NONE : next[i];
                default: return done[i];
            }
        }

        private int markOf(int i, int kind) {
            switch (kind) {
                case ADD: return waitFor(spots[with[i]], spots[i] + 1, places);
                case JUMP: return waitFor(spots[next[i]], spots[i] + 1, places);
                case STORE: return values[with[i]] == sum ? 0 : 1;
                case TIMES: return workOf(i);
                default: return dueBehind(i);
            }
        }

        private int workOf(int i) {
            switch (kindOf[i]) {
                case ADD: return 2;
                case STORE: return 1;
                case TIMES: return 2 + values[with[i]] / 10;
                case TEST: return 1;
                default: return 0;
            }
        }

        private int dueBehind(int i) {
            if (kindOf[i] == NUMBER) {
                return NONE;
            }
            return kindOf[i] == TEST && sum >= TEST_FROM ? with[i] : next[i];
        }

        /** What a STEP changes but for the BEAT: it does not hang on where the WORDS lie. */
        private void act(int i) {
            int dueThen = dueBehind(i);
            if (kindOf[i] == ADD) {
                sum = (sum + values[with[i]]) % LEFT_OVER;
            } else if (kindOf[i] == STORE) {
                values[with[i]] = sum;
            } else if (kindOf[i] == TIMES) {
                sum = sum * values[with[i]] % LEFT_OVER;
            }
            due = dueThen;
            done[i]++;
            steps++;
        }

        private void readWord(int i) {
            beat += waitFor(spots[i], beat, places) + 1;
        }

        private int doStep() {
            int from = beat;
            int i = due;
            if (!has(i)) {
                return STATE;
            }
            readWord(i);
            if (isOf(i, ADD)) {
                readWord(with[i]);
            }
            beat += workOf(i);
            act(i);
            return beat - from;
        }

        private int moveTo(int i, int spot) {
            int was = spots[i];
            spots[i] = spot;
            return was;
        }

        private int changeRound(int i, int j) {
            exchange(spots, i, j);
            return spots[i];
        }

        private int tellAnew(int i, int v) {
            int was = values[i];
            values[i] = v;
            return was;
        }
    }

    /** A machine with its DEEDS; they are undone by doing those ahead of them again from the start. */
    private static final class Drum {
        private final Machine start = new Machine();
        private final Machine now = new Machine();
        private int deeds = 0;
        private final int[] what = new int[DEEDS_MOST];
        private final int[] first = new int[DEEDS_MOST];
        private final int[] second = new int[DEEDS_MOST];

        private boolean isMissing() {
            return now.words == 0;
        }

        private void drop() {
            now.words = 0;
        }

        private void begin(Machine machine) {
            start.become(machine);
            now.become(machine);
            deeds = 0;
        }

        private void become(Drum other) {
            start.become(other.start);
            now.become(other.now);
            deeds = other.deeds;
            System.arraycopy(other.what, 0, what, 0, DEEDS_MOST);
            System.arraycopy(other.first, 0, first, 0, DEEDS_MOST);
            System.arraycopy(other.second, 0, second, 0, DEEDS_MOST);
        }

        private int doDeed(int kind, int a, int b) {
            if (deeds >= DEEDS_MOST) {
                return FULL;
            }
            what[deeds] = kind;
            first[deeds] = a;
            second[deeds] = b;
            deeds++;
            return perform(deeds - 1);
        }

        private int perform(int number) {
            switch (what[number]) {
                case STEP: return now.doStep();
                case MOVE: return now.moveTo(first[number], second[number]);
                case SWAP: return now.changeRound(first[number], second[number]);
                default: return now.tellAnew(first[number], second[number]);
            }
        }

        private void goBackTo(int n) {
            now.become(start);
            for (int number = 0; number < n && number < deeds; number++) {
                perform(number);
            }
            deeds = n;
        }
    }

    /** Reads a TEXT into a draft; where it can't go on, "here" stays at the FAULT. */
    private static final class Reader {
        private final Machine draft = new Machine();
        private byte[] signs = new byte[0];
        private int size = 0;
        private int here = 0;

        private int faultOf(byte[] text, int n) {
            signs = text;
            size = Math.min(n, text.length);
            here = 0;
            draft.words = 0;
            if (!readHead()) {
                return here;
            }
            skipBlanks();
            for (int w = 0; w <= WORDS_MOST && here < size; w++) {
                if (w == WORDS_MOST || !readWord(w)) {
                    return here;
                }
                skipBlanks();
            }
            if (draft.words < WORDS_LEAST || !tellsOnlyWords()) {
                return size;
            }
            draft.due = 0;
            return NONE;
        }

        private void skipBlanks() {
            while (here < size && signs[here] == BLANK) {
                here++;
            }
        }

        private boolean readHead() {
            skipBlanks();
            if (here >= size || signs[here] != DRUM_LETTER) {
                return false;
            }
            here++;
            int places = readFigure(PLACES_LEAST, PLACES_MOST);
            if (places == NONE) {
                return false;
            }
            draft.places = places;
            return true;
        }

        private boolean readWord(int i) {
            int kind = readLetter();
            if (kind == NONE || !readPlace(i)) {
                return false;
            }
            int most = kind == NUMBER ? 9 : WORDS_MOST - 1;
            int one = readFigure(0, most);
            int two = one == NONE ? NONE : readFigure(0, most);
            if (two == NONE) {
                return false;
            }
            draft.kindOf[i] = kind;
            draft.values[i] = kind == NUMBER ? 10 * one + two : 0;
            draft.with[i] = kind == NUMBER ? 0 : one;
            draft.next[i] = kind == NUMBER ? 0 : two;
            draft.words = i + 1;
            return true;
        }

        private int readLetter() {
            for (int k = 0; k < KINDS && here < size; k++) {
                if (signs[here] == LETTERS[k]) {
                    here++;
                    return k;
                }
            }
            return NONE;
        }

        private boolean readPlace(int i) {
            int spot = readFigure(0, draft.places - 1);
            if (spot == NONE) {
                return false;
            }
            if (!draft.isFree(spot)) {
                here--;
                return false;
            }
            draft.spots[i] = spot;
            return true;
        }

        private int readFigure(int low, int high) {
            if (here >= size) {
                return NONE;
            }
            int figure = signs[here] - FIGURE_NOUGHT;
            if (!isWithin(figure, low, high)) {
                return NONE;
            }
            here++;
            return figure;
        }

        private boolean tellsOnlyWords() {
            for (int i = 0; i < draft.words; i++) {
                if (!draft.has(draft.with[i]) || !draft.has(draft.next[i])) {
                    return false;
                }
            }
            return true;
        }
    }

    /** What STEPS to come READ, and how long they WORK: it is the same wherever the WORDS lie. */
    private static final class Trace {
        private final int[] read = new int[READS_MOST];
        private final int[] workBehind = new int[READS_MOST];
        private final int[] readsBy = new int[STEPS_MOST + 1];
        private int reads = 0;
        private int steps = 0;
        private int beat = 0;
        private int places = 0;

        /** The machine given here goes through the STEPS, but for its BEAT. */
        private void follow(Machine machine, int n) {
            reads = 0;
            steps = 0;
            beat = machine.beat;
            places = machine.places;
            for (int s = 0; s < n && s < STEPS_MOST && machine.has(machine.due); s++) {
                int i = machine.due;
                addRead(i);
                if (machine.isOf(i, ADD)) {
                    addRead(machine.with[i]);
                }
                workBehind[reads - 1] = machine.workOf(i);
                machine.act(i);
                steps++;
                readsBy[steps] = reads;
            }
        }

        private void addRead(int i) {
            if (reads < READS_MOST) {
                read[reads] = i;
                workBehind[reads] = 0;
                reads++;
            }
        }

        private int busyBeats() {
            int busy = reads;
            for (int k = 0; k < reads; k++) {
                busy += workBehind[k];
            }
            return busy;
        }

        /** The BEAT behind a STEP (0: the first one to come) that begins at a BEAT. */
        private int beatBehind(int[] spots, int from, int step) {
            if (step < 0 || step >= steps) {
                return from;
            }
            int t = from;
            for (int k = readsBy[step]; k < readsBy[step + 1]; k++) {
                t += waitFor(spots[read[k]], t, places) + 1 + workBehind[k];
            }
            return t;
        }

        private int beatsOf(int[] spots, int n) {
            int t = beat;
            for (int s = 0; s < n && s < steps; s++) {
                t = beatBehind(spots, t, s);
            }
            return t - beat;
        }

        private boolean fits(int[] spots, int[] times, int n) {
            if (steps < n) {
                return false;
            }
            int t = beat;
            for (int s = 0; s < n; s++) {
                t = beatBehind(spots, t, s);
                if (t - beat != times[s]) {
                    return false;
                }
            }
            return true;
        }
    }

    /** Other placings of the WORDS, tried on the STEPS of a trace. */
    private static final class Placing {
        private final Trace trace;
        private final int[] spots = new int[WORDS_MOST];
        private final int[] filled = new int[WORDS_MOST];
        private final int[] shortest = new int[WORDS_MOST];
        private int shortestWait = 0;
        private int words = 0;
        private int places = 0;

        private Placing(Trace trace) {
            this.trace = trace;
        }

        private void begin(Machine machine) {
            words = machine.words;
            places = machine.places;
            System.arraycopy(machine.spots, 0, spots, 0, WORDS_MOST);
        }

        private void takeOffAllButFirst() {
            for (int i = 1; i < words; i++) {
                spots[i] = NONE;
            }
        }

        /** WORDS that do not lie yet come to the free PLACES, lesser ones first. */
        private void fillRest(int[] into) {
            System.arraycopy(spots, 0, into, 0, WORDS_MOST);
            int spot = 0;
            for (int i = 0; i < words; i++) {
                if (into[i] == NONE) {
                    while (spot < places && lyingAt(into, words, spot) != NONE) {
                        spot++;
                    }
                    into[i] = spot;
                }
            }
        }

        private void layByFirstUse() {
            takeOffAllButFirst();
            int t = trace.beat;
            for (int k = 0; k < trace.reads; k++) {
                int i = trace.read[k];
                if (spots[i] == NONE) {
                    spots[i] = firstFreeFrom(t);
                }
                t += waitFor(spots[i], t, places) + 1 + trace.workBehind[k];
            }
            fillRest(spots);
        }

        private int firstFreeFrom(int t) {
            for (int d = 0; d < places; d++) {
                int spot = (t + d) % places;
                if (lyingAt(spots, words, spot) == NONE) {
                    return spot;
                }
            }
            return NONE;
        }

        private void findShortest() {
            takeOffAllButFirst();
            shortestWait = BEYOND_ALL;
            layOn(this, 0, trace.beat, 0, 0);
        }

        /** Lays WORDS as they come to be READ; only waiting hangs on where they lie. */
        private static void layOn(Placing p, int from, int beat, int waited, int depth) {
            int k = from;
            int t = beat;
            int waits = waited;
            for (; k < p.trace.reads && p.spots[p.trace.read[k]] != NONE; k++) {
                int wait = waitFor(p.spots[p.trace.read[k]], t, p.places);
                waits += wait;
                t += wait + 1 + p.trace.workBehind[k];
            }
            if (waits > p.shortestWait || depth > WORDS_MOST) {
                return;
            }
            if (k >= p.trace.reads) {
                p.settle(waits);
                return;
            }
            int i = p.trace.read[k];
            for (int d = 0; d < p.places && waits + d <= p.shortestWait; d++) {
                int spot = (t + d) % p.places;
                if (lyingAt(p.spots, p.words, spot) == NONE) {
                    p.spots[i] = spot;
                    layOn(p, k, t, waits, depth + 1);
                    p.spots[i] = NONE;
                }
            }
        }

        private void settle(int waits) {
            fillRest(filled);
            if (waits < shortestWait || isAhead(filled, shortest)) {
                shortestWait = waits;
                System.arraycopy(filled, 0, shortest, 0, WORDS_MOST);
            }
        }

        private boolean isAhead(int[] one, int[] other) {
            for (int i = 0; i < words; i++) {
                if (one[i] != other[i]) {
                    return one[i] < other[i];
                }
            }
            return false;
        }

        /** What comes of the turns; below low, above high it need not be told exactly. */
        private static int play(Placing p, int turns, boolean wantsLong, int low, int high) {
            if (turns <= 0) {
                return p.trace.beatsOf(p.spots, DUEL_STEPS);
            }
            int best = play(p, turns - 1, !wantsLong, low, high);
            for (int i = 0; i < p.words; i++) {
                for (int j = i + 1; j < p.words; j++) {
                    int lowNow = wantsLong ? Math.max(low, best) : low;
                    int highNow = wantsLong ? high : Math.min(high, best);
                    if (lowNow >= highNow) {
                        return best;
                    }
                    exchange(p.spots, i, j);
                    int beats = play(p, turns - 1, !wantsLong, lowNow, highNow);
                    exchange(p.spots, i, j);
                    best = wantsLong ? Math.max(best, beats) : Math.min(best, beats);
                }
            }
            return best;
        }
    }
}
