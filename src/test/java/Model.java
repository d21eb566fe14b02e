import java.util.ArrayList;
import java.util.Arrays;
import java.util.HashMap;
import java.util.List;
import java.util.Map;
import java.util.regex.Matcher;
import java.util.regex.Pattern;

/**
 * The document once more, as slowly and plainly as can be: the drum turns beat by beat, placings
 * are all tried, misses are all gone through. ModelTest holds the class against it.
 */
final class Model {
    private static final int BAD = -1, FULL = -2, FINDING = -3, STATE = -4, NONE = -9;
    private static final int NOTHING = 1, BEYOND = 2, UNLIKE = 3, NOUGHT = 4, SIZE = 5;
    private static final Pattern TEXT =
        Pattern.compile(" *d[6-9](?: *(?:n[0-8][0-9][0-9]|[ajste][0-8][0-5][0-5])){0,6} *");

    /** The machine at one moment. */
    static final class Moment implements Cloneable {
        int places, words, beat, sum, due, steps, waited;
        int[] kind, place, value, with, next, done;
        /** Which READINGS miss, as they come. */
        boolean[] misses = new boolean[0];
        int readings;
        boolean clerk;

        Moment again() {
            Moment m = new Moment();
            m.places = places;
            m.words = words;
            m.beat = beat;
            m.sum = sum;
            m.due = due;
            m.steps = steps;
            m.kind = kind.clone();
            m.place = place.clone();
            m.value = value.clone();
            m.with = with.clone();
            m.next = next.clone();
            m.done = done.clone();
            return m;
        }

        int under() {
            return beat % places;
        }

        int holder(int spot) {
            for (int i = 0; i < words; i++) {
                if (place[i] == spot) {
                    return i;
                }
            }
            return NONE;
        }

        void read(int i) {
            if (clerk && place[i] == NONE) {
                while (holder(under()) != NONE) {
                    beat++;
                    waited++;
                }
                place[i] = under();
            }
            while (under() != place[i]) {
                beat++;
                waited++;
            }
            beat++;
            if (readings < misses.length && misses[readings]) {
                beat += places;
            }
            readings++;
        }

        void work(int beats) {
            beat += beats;
        }

        boolean step() {
            if (due == NONE) {
                return false;
            }
            int i = due;
            int w = with[i];
            read(i);
            switch (kind[i]) {
                case 0:
                    due = NONE;
                    break;
                case 1:
                    read(w);
                    sum = (sum + value[w]) % 100;
                    work(2);
                    due = next[i];
                    break;
                case 2:
                    due = next[i];
                    break;
                case 3:
                    read(w);
                    value[w] = sum;
                    work(1);
                    due = next[i];
                    break;
                case 4:
                    read(w);
                    work(2 + value[w] / 10);
                    sum = (sum * value[w]) % 100;
                    due = next[i];
                    break;
                default:
                    work(1);
                    due = sum >= 50 ? w : next[i];
                    break;
            }
            done[i]++;
            steps++;
            return true;
        }

        Moment behind(int n) {
            Moment m = again();
            m.misses = misses;
            m.clerk = clerk;
            for (int s = 0; s < n; s++) {
                m.step();
            }
            return m;
        }

        int beats(int n) {
            return behind(n).beat - beat;
        }

        Moment with(int i, int spot) {
            Moment m = again();
            m.place[i] = spot;
            return m;
        }

        Moment changed(int i, int j) {
            Moment m = again();
            m.place[i] = place[j];
            m.place[j] = place[i];
            return m;
        }

        List<Integer> open(int i) {
            List<Integer> spots = new ArrayList<>();
            for (int p = 0; p < places; p++) {
                if (holder(p) == NONE || holder(p) == i) {
                    spots.add(p);
                }
            }
            return spots;
        }

        boolean tells(int[] times) {
            Moment m = again();
            for (int time : times) {
                if (!m.step() || m.beat - beat != time) {
                    return false;
                }
            }
            return true;
        }
    }

    private final int[][] rows = new int[6][];
    private final byte[][] texts = new byte[4][];
    private Moment now = null;
    private List<Moment> past = new ArrayList<>();
    private final Moment[] keptNow = new Moment[3];
    private final List<List<Moment>> keptPast =
        new ArrayList<>(Arrays.asList(null, null, null));
    private int told = 0;
    private long up = 0;
    private long low = 1;
    private int latest = 0;
    private final int[] found = new int[6];

    Moment moment() {
        return now;
    }

    private int find(int finding) {
        latest = finding;
        found[finding]++;
        return FINDING;
    }

    private static boolean in(int x, int from, int to) {
        return x >= from && x <= to;
    }

    private boolean isWord(int i) {
        return now != null && in(i, 0, now.words - 1);
    }

    public int row(int r, int n) {
        if (!in(r, 0, 5) || n > 40) {
            return BAD;
        }
        if (n < 0) {
            return find(SIZE);
        }
        rows[r] = new int[n];
        return n;
    }

    public int lay(int r, int i, int v) {
        int was = at(r, i);
        if (was == 1) {
            rows[r][i] = v;
        }
        return was;
    }

    public int at(int r, int i) {
        if (!in(r, 0, 5)) {
            return BAD;
        }
        if (rows[r] == null) {
            return find(NOTHING);
        }
        if (!in(i, 0, rows[r].length - 1)) {
            return find(BEYOND);
        }
        told = rows[r][i];
        return 1;
    }

    public int tear(int r) {
        if (!in(r, 0, 5)) {
            return BAD;
        }
        if (rows[r] == null) {
            return find(NOTHING);
        }
        rows[r] = null;
        return 1;
    }

    public int copy(int r, int i, int to, int j, int n) {
        if (!in(r, 0, 5) || !in(to, 0, 5)) {
            return BAD;
        }
        if (n < 0) {
            return find(SIZE);
        }
        if (rows[r] == null || rows[to] == null) {
            return find(NOTHING);
        }
        if (i < 0 || j < 0 || (long) i + n > rows[r].length || (long) j + n > rows[to].length) {
            return find(BEYOND);
        }
        int[] taken = Arrays.copyOfRange(rows[r], i, i + n);
        for (int k = 0; k < n; k++) {
            rows[to][j + k] = taken[k];
        }
        return 1;
    }

    public int mean(int r) {
        if (!in(r, 0, 5)) {
            return BAD;
        }
        if (rows[r] == null) {
            return find(NOTHING);
        }
        if (rows[r].length == 0) {
            return find(NOUGHT);
        }
        told = (int) (Arrays.stream(rows[r]).asLongStream().sum() / rows[r].length);
        return 1;
    }

    public int text(int t, int n) {
        if (!in(t, 0, 3) || n > 60) {
            return BAD;
        }
        if (n < 0) {
            return find(SIZE);
        }
        texts[t] = new byte[n];
        Arrays.fill(texts[t], (byte) 32);
        return n;
    }

    public int put(int t, int i, int v) {
        if (!in(t, 0, 3)) {
            return BAD;
        }
        if (texts[t] == null) {
            return find(NOTHING);
        }
        if (!in(i, 0, texts[t].length - 1)) {
            return find(BEYOND);
        }
        int was = texts[t][i];
        texts[t][i] = (byte) v;
        return 1000 + was;
    }

    /** Whether a text could still become one without a FAULT, if more were told. */
    private static boolean canGoOn(String text) {
        Matcher m = TEXT.matcher(text);
        if (!m.matches() && !m.hitEnd()) {
            return false;
        }
        String signs = text.replace(" ", "");
        String taken = "";
        for (int k = 3; k < signs.length(); k += 4) {
            char spot = signs.charAt(k);
            if (spot >= signs.charAt(1) || taken.indexOf(spot) >= 0) {
                return false;
            }
            taken += spot;
        }
        return true;
    }

    private static boolean isWhole(String text) {
        String signs = text.replace(" ", "");
        int words = (signs.length() - 2) / 4;
        if (!TEXT.matcher(text).matches() || words < 2) {
            return false;
        }
        for (int k = 2; k < signs.length(); k += 4) {
            if (signs.charAt(k) != 'n'
                && (signs.charAt(k + 2) - '0' >= words || signs.charAt(k + 3) - '0' >= words)) {
                return false;
            }
        }
        return true;
    }

    private static String signsOf(byte[] text) {
        StringBuilder b = new StringBuilder();
        for (byte sign : text) {
            b.append((char) (sign & 255));
        }
        return b.toString();
    }

    public int fault(int t) {
        if (!in(t, 0, 3)) {
            return BAD;
        }
        if (texts[t] == null) {
            return find(NOTHING);
        }
        String text = signsOf(texts[t]);
        for (int n = 1; n <= text.length(); n++) {
            if (!canGoOn(text.substring(0, n))) {
                return n - 1;
            }
        }
        return isWhole(text) ? NONE : text.length();
    }

    public int drum(int t) {
        int fault = fault(t);
        if (fault == BAD || fault == FINDING) {
            return fault;
        }
        if (fault != NONE) {
            return STATE;
        }
        String signs = signsOf(texts[t]).replace(" ", "");
        int n = signs.length() / 4;
        now = new Moment();
        now.words = n;
        now.places = signs.charAt(1) - '0';
        now.kind = new int[n];
        now.place = new int[n];
        now.value = new int[n];
        now.with = new int[n];
        now.next = new int[n];
        now.done = new int[n];
        for (int i = 0; i < n; i++) {
            String word = signs.substring(2 + 4 * i, 6 + 4 * i);
            now.kind[i] = "najste".indexOf(word.charAt(0));
            now.place[i] = word.charAt(1) - '0';
            if (now.kind[i] == 0) {
                now.value[i] = Integer.parseInt(word.substring(2));
            } else {
                now.with[i] = word.charAt(2) - '0';
                now.next[i] = word.charAt(3) - '0';
            }
        }
        past = new ArrayList<>();
        Arrays.fill(keptNow, null);
        return n;
    }

    private int tell(int i, int what) {
        switch (what) {
            case 0: return now.kind[i];
            case 1: return now.place[i];
            case 2: return now.value[i];
            case 3: return now.kind[i] == 0 ? NONE : now.with[i];
            case 4: return now.kind[i] == 0 ? NONE : now.next[i];
            default: return now.done[i];
        }
    }

    public int word(int i, int what) {
        if (!isWord(i) || !in(what, 0, 5)) {
            return BAD;
        }
        told = tell(i, what);
        return 1;
    }

    private static int waited(Moment m, int beat, int i) {
        int waited = 0;
        while ((beat + waited) % m.places != m.place[i]) {
            waited++;
        }
        return waited;
    }

    public int mark(int i, int kind) {
        if (!isWord(i) || !in(kind, 1, 5)) {
            return BAD;
        }
        int is = now.kind[i];
        boolean isAdd = is == 1 || is == 3 || is == 4;
        boolean isJump = is == 2 || is == 5;
        if (!(is == kind || kind == 1 && isAdd || kind == 2 && isJump)) {
            return find(UNLIKE);
        }
        switch (kind) {
            case 1: return waited(now, now.place[i] + 1, now.with[i]);
            case 2: return waited(now, now.place[i] + 1, now.next[i]);
            case 3: return now.sum != now.value[now.with[i]] ? 1 : 0;
            case 4: return 2 + now.value[now.with[i]] / 10;
            default: return now.sum >= 50 ? now.with[i] : now.next[i];
        }
    }

    public int waits(int i, int b) {
        return isWord(i) && in(b, 0, 999) ? waited(now, b, i) : BAD;
    }

    private boolean isFull() {
        return past.size() >= 40;
    }

    private void remember() {
        past.add(now);
        now = now.again();
    }

    public int step() {
        if (now == null || now.due == NONE) {
            return STATE;
        }
        if (isFull()) {
            return FULL;
        }
        remember();
        now.step();
        return now.beat - past.get(past.size() - 1).beat;
    }

    public int move(int i, int place) {
        if (!isWord(i) || !in(place, 0, now.places - 1)) {
            return BAD;
        }
        if (now.holder(place) != NONE) {
            return STATE;
        }
        if (isFull()) {
            return FULL;
        }
        remember();
        int was = now.place[i];
        now.place[i] = place;
        return was;
    }

    public int swap(int i, int j) {
        if (!isWord(i) || !isWord(j) || i == j) {
            return BAD;
        }
        if (isFull()) {
            return FULL;
        }
        remember();
        now = now.changed(i, j);
        return now.place[i];
    }

    public int value(int i, int v) {
        if (!isWord(i) || !in(v, 0, 99)) {
            return BAD;
        }
        if (isFull()) {
            return FULL;
        }
        remember();
        int was = now.value[i];
        now.value[i] = v;
        return was;
    }

    public int undo(int n) {
        if (!in(n, 0, past.size())) {
            return BAD;
        }
        int undone = past.size() - n;
        if (undone > 0) {
            now = past.get(n).again();
            past = new ArrayList<>(past.subList(0, n));
        }
        return undone;
    }

    public int keep(int k) {
        if (!in(k, 0, 2)) {
            return BAD;
        }
        if (now == null) {
            return STATE;
        }
        keptNow[k] = now.again();
        keptPast.set(k, new ArrayList<>(past));
        return past.size();
    }

    public int on(int k) {
        if (!in(k, 0, 2)) {
            return BAD;
        }
        if (keptNow[k] == null) {
            return find(NOTHING);
        }
        now = keptNow[k].again();
        past = new ArrayList<>(keptPast.get(k));
        return past.size();
    }

    private int refusedSteps(int n, int most) {
        return !in(n, 0, most) ? BAD : now == null ? STATE : 0;
    }

    public int takes(int n) {
        int refused = refusedSteps(n, 40);
        if (refused != 0) {
            return refused;
        }
        told = now.behind(n).sum;
        return now.beats(n);
    }

    private static long divisor(long a, long b) {
        return b == 0 ? a : divisor(b, a % b);
    }

    private void share(long part, long whole) {
        long d = Math.max(1, divisor(part, whole));
        up = part / d;
        low = whole == 0 ? 1 : whole / d;
    }

    public int idle(int n) {
        int refused = refusedSteps(n, 40);
        if (refused != 0) {
            return refused;
        }
        int waited = now.behind(n).waited;
        share(waited, now.beats(n));
        return waited;
    }

    public int stops() {
        if (now == null) {
            return STATE;
        }
        for (int n = 0; n <= 40; n++) {
            if (now.behind(n).due == NONE) {
                return n;
            }
        }
        return NONE;
    }

    public int when(int i, int v) {
        if (!isWord(i) || !in(v, 0, 99)) {
            return BAD;
        }
        for (int n = 0; n <= 40; n++) {
            if (now.behind(n).value[i] >= v) {
                told = now.beats(n);
                return n;
            }
        }
        return NONE;
    }

    public int place(int i, int n) {
        if (!isWord(i) || !in(n, 0, 40)) {
            return BAD;
        }
        int best = NONE;
        for (int p : now.open(i)) {
            if (best == NONE || now.with(i, p).beats(n) < now.with(i, best).beats(n)) {
                best = p;
            }
        }
        told = now.with(i, best).beats(n);
        return best;
    }

    public int best(int n) {
        int refused = refusedSteps(n, 40);
        if (refused != 0) {
            return refused;
        }
        int best = NONE;
        int fewest = now.beats(n);
        for (int i = 0; i < now.words; i++) {
            for (int j = i + 1; j < now.words; j++) {
                if (now.changed(i, j).beats(n) < fewest) {
                    fewest = now.changed(i, j).beats(n);
                    best = 10 * i + j;
                }
            }
        }
        told = best == NONE ? told : fewest;
        return best;
    }

    private void allPlacings(int[] spots, int i, List<int[]> into) {
        if (i == spots.length) {
            into.add(spots.clone());
            return;
        }
        for (int p = 0; p < now.places; p++) {
            boolean taken = false;
            for (int j = 0; j < i; j++) {
                taken |= spots[j] == p;
            }
            if (!taken) {
                spots[i] = p;
                allPlacings(spots, i + 1, into);
            }
        }
    }

    public int least(int n, int r) {
        if (!in(n, 0, 12) || !in(r, 0, 5)) {
            return BAD;
        }
        if (now == null) {
            return STATE;
        }
        List<int[]> all = new ArrayList<>();
        int[] spots = now.place.clone();
        allPlacings(spots, 1, all);
        int fewest = Integer.MAX_VALUE;
        for (int[] placing : all) {
            Moment m = now.again();
            m.place = placing;
            int beats = m.beats(n);
            if (beats < fewest) {
                fewest = beats;
                rows[r] = placing.clone();
            }
        }
        return fewest;
    }

    public int clerk(int n, int r) {
        if (!in(n, 0, 12) || !in(r, 0, 5)) {
            return BAD;
        }
        if (now == null) {
            return STATE;
        }
        Moment m = now.again();
        m.clerk = true;
        Arrays.fill(m.place, 1, m.words, NONE);
        Moment then = m.behind(n);
        for (int i = 0; i < then.words; i++) {
            for (int p = 0; p < then.places && then.place[i] == NONE; p++) {
                if (then.holder(p) == NONE) {
                    then.place[i] = p;
                }
            }
        }
        rows[r] = then.place;
        return then.beat - now.beat;
    }

    private int refusedTimes(int i, int r) {
        if (!isWord(i) || !in(r, 0, 5)) {
            return BAD;
        }
        if (rows[r] == null) {
            return find(NOTHING);
        }
        if (!in(rows[r].length, 1, 6)) {
            return find(SIZE);
        }
        return Arrays.stream(rows[r]).allMatch(v -> in(v, 0, 999)) ? 0 : find(UNLIKE);
    }

    public int lies(int i, int r) {
        int refused = refusedTimes(i, r);
        if (refused != 0) {
            return refused;
        }
        int bits = 0;
        for (int p : now.open(i)) {
            bits += now.with(i, p).tells(rows[r]) ? 1 << p : 0;
        }
        return bits;
    }

    public int kinds(int i, int r) {
        int refused = refusedTimes(i, r);
        if (refused != 0) {
            return refused;
        }
        int bits = 0;
        for (int k = 0; k < 6; k++) {
            Moment m = now.again();
            m.kind[i] = k;
            bits += m.tells(rows[r]) ? 1 << k : 0;
        }
        return bits;
    }

    public int watch(int i) {
        if (!isWord(i)) {
            return BAD;
        }
        int best = NONE;
        int leastPart = 100;
        for (int n = 1; n <= 12; n++) {
            Map<Integer, Integer> parts = new HashMap<>();
            for (int p : now.open(i)) {
                parts.merge(now.with(i, p).beats(n), 1, Integer::sum);
            }
            int part = parts.values().stream().max(Integer::compare).orElse(0);
            if (part < leastPart) {
                leastPart = part;
                best = n;
            }
        }
        told = leastPart;
        return best;
    }

    private static int duel(Moment m, int n, boolean isLong) {
        if (n == 0) {
            return m.beats(8);
        }
        List<Integer> outcomes = new ArrayList<>();
        outcomes.add(duel(m, n - 1, !isLong));
        for (int i = 0; i < m.words; i++) {
            for (int j = i + 1; j < m.words; j++) {
                outcomes.add(duel(m.changed(i, j), n - 1, !isLong));
            }
        }
        outcomes.sort(null);
        return outcomes.get(isLong ? outcomes.size() - 1 : 0);
    }

    public int duel(int n) {
        int refused = refusedSteps(n, 3);
        return refused != 0 ? refused : duel(now, n, true);
    }

    private int readings(int n) {
        return now.behind(n).readings;
    }

    /** The beats, how many of 12 times 12 times .. ways lead there. */
    private long[][] ways(int n, int p) {
        int readings = readings(n);
        long[][] ways = new long[1 << readings][];
        for (int set = 0; set < ways.length; set++) {
            Moment m = now.again();
            m.misses = new boolean[readings];
            long many = 1;
            for (int k = 0; k < readings; k++) {
                m.misses[k] = (set >> k & 1) == 1;
                many *= m.misses[k] ? p : 12 - p;
            }
            ways[set] = new long[] {m.beats(n), many};
        }
        return ways;
    }

    private long allWays(int n) {
        long all = 1;
        for (int k = 0; k < readings(n); k++) {
            all *= 12;
        }
        return all;
    }

    public int odds(int n, int v, int p) {
        if (!in(n, 0, 3) || !in(v, 0, 999) || !in(p, 0, 12)) {
            return BAD;
        }
        if (now == null) {
            return STATE;
        }
        long part = 0;
        for (long[] way : ways(n, p)) {
            part += way[0] <= v ? way[1] : 0;
        }
        share(part, allWays(n));
        return 1;
    }

    public int mid(int n, int p) {
        if (!in(n, 0, 3) || !in(p, 0, 12)) {
            return BAD;
        }
        if (now == null) {
            return STATE;
        }
        long part = 0;
        for (long[] way : ways(n, p)) {
            part += way[0] * way[1];
        }
        share(part, allWays(n));
        return 1;
    }

    public int lots(int n, int seed) {
        if (!in(n, 1, 20) || seed < 1 || seed > 2147483646) {
            return BAD;
        }
        if (now == null) {
            return STATE;
        }
        if (past.size() + n > 40) {
            return FULL;
        }
        long lot = seed;
        for (int k = 0; k < n; k++) {
            lot = lot * 48271 % 2147483647;
            if (lot % 3 == 0 || now.due == NONE) {
                int i = (int) (lot / 8 % now.words);
                swap(i, i == now.words - 1 ? 0 : i + 1);
            } else {
                step();
            }
        }
        return now.beat;
    }

    public int asked() {
        return told;
    }

    public long upper() {
        return up;
    }

    public long lower() {
        return low;
    }

    private static int there(Object[] things) {
        return (int) Arrays.stream(things).filter(thing -> thing != null).count();
    }

    public int count(int what) {
        boolean none = now == null;
        switch (what) {
            case 0: return none ? 0 : now.words;
            case 1: return none ? 0 : now.places;
            case 2: return past.size();
            case 3: return none ? 0 : now.beat;
            case 4: return none ? 0 : now.sum;
            case 5: return none ? NONE : now.due;
            case 6: return none ? 0 : now.steps;
            case 7: return none ? 0
                : (int) Arrays.stream(now.kind).filter(k -> k == 1 || k == 3 || k == 4).count();
            case 8: return there(rows);
            case 9: return there(texts);
            case 10: return there(keptNow);
            default: return BAD;
        }
    }

    public int finding() {
        return latest;
    }

    public int findings(int f) {
        return in(f, 1, 5) ? found[f] : BAD;
    }

    public long digest() {
        List<Integer> all = new ArrayList<>();
        for (int what = 0; what <= 10; what++) {
            all.add(count(what));
        }
        for (int i = 0; i < count(0); i++) {
            for (int what = 0; what <= 5; what++) {
                all.add(tell(i, what));
            }
        }
        for (int k = 0; k < 3; k++) {
            all.add(keptNow[k] == null ? -1 : keptPast.get(k).size());
        }
        for (int[] row : rows) {
            all.add(row == null ? -1 : row.length);
            for (int k = 0; row != null && k < row.length; k++) {
                all.add(row[k]);
            }
        }
        for (byte[] text : texts) {
            all.add(text == null ? -1 : text.length);
            for (int k = 0; text != null && k < text.length; k++) {
                all.add((int) text[k]);
            }
        }
        long h = 17;
        for (int v : all) {
            h = 31 * h + v;
        }
        return h;
    }
}
