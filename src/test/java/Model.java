import java.util.ArrayList;
import java.util.Arrays;
import java.util.List;

/**
 * The document once more, as plainly and as slowly as can be: every passage is sailed, every choice is tried.
 * It shares no code with the class, so that a slip in one of them shows.
 */
final class Model {
    private static final int BAD = -1, NOT = -2, FULL = -3, NONE = -4, NULL = -11, CAST = -12, INDEX = -13, SIZE = -14;

    /** All that an image keeps; lists of rows of numbers, copied whole. */
    private static final class World {
        List<int[]> pairs = new ArrayList<>();
        List<int[]> ships = new ArrayList<>();
        /** clock, out, passed, scrapes */
        int[] voyage = {0, NONE, 0, 0};
        List<int[]> past = new ArrayList<>();
        long draw = 1;
        List<int[]> looks = new ArrayList<>();

        World deepCopy() {
            World w = new World();
            w.pairs = copyOf(pairs);
            w.ships = copyOf(ships);
            w.voyage = voyage.clone();
            w.past = copyOf(past);
            w.draw = draw;
            w.looks = copyOf(looks);
            return w;
        }
    }

    private World w = new World();
    private World kept;
    private String tape = "";
    private final long[][] sheets = new long[4][];
    private final int[] lanes = new int[4];

    private static List<int[]> copyOf(List<int[]> rows) {
        List<int[]> copy = new ArrayList<>();
        for (int[] row : rows) {
            copy.add(row.clone());
        }
        return copy;
    }

    private static boolean in(long v, long a, long b) {
        return a <= v && v <= b;
    }

    private boolean noPair(int p) {
        return !in(p, 0, w.pairs.size() - 1);
    }

    private boolean noShip(int s) {
        return !in(s, 0, w.ships.size() - 1);
    }

    private boolean noBegin(int s, int t) {
        return noShip(s) || !in(t, 0, 9999);
    }

    // A pair is kind, reach, beat, opening, phase.

    private static boolean plain(int[] p, int t) {
        return (t + p[4]) % p[2] < p[3];
    }

    private static boolean slow(int[] p, int t) {
        return plain(p, t / 2);
    }

    private static boolean opened(int[] p, int t) {
        if (p[0] == 0) {
            return plain(p, t);
        }
        if (p[0] == 1) {
            return slow(p, t);
        }
        if (p[0] == 2) {
            return plain(p, t) || plain(p, t + p[2] / 2);
        }
        return t >= 1 && slow(p, t) && slow(p, t - 1);
    }

    // A ship is kind, length, speed.

    private static int high(int[] s) {
        return s[0] == 1 || s[0] == 3 ? Math.min(2, s[2]) : s[2];
    }

    private static int low(int[] s) {
        return s[0] == 2 ? high(s) : 1;
    }

    private static int span(int[] s) {
        return s[0] == 3 ? s[1] + 2 : s[1];
    }

    private static int up(int a, int b) {
        return (int) Math.ceil((double) a / b);
    }

    /** How, and the second behind, or that of the crush. */
    private static int[] between(int[] p, int[] s, int t, int pace) {
        int at = t + up(p[1], pace);
        int takes = up(span(s), pace);
        int shut = 0;
        int firstShut = -1;
        boolean lastShut = false;
        for (int k = 0; k < takes; k++) {
            if (!opened(p, at + k)) {
                shut++;
                firstShut = firstShut < 0 ? at + k : firstShut;
                lastShut = k == takes - 1;
            }
        }
        if (shut == 0) {
            return new int[] {0, at + takes};
        }
        return shut == 1 && lastShut ? new int[] {1, at + takes} : new int[] {2, firstShut};
    }

    /** The pair that crushes, the set of scrapes, the second. */
    private static int[] sail(List<int[]> pairs, int[] s, int t, int[] paces) {
        int set = 0;
        int now = t;
        for (int k = 0; k < pairs.size(); k++) {
            int[] how = between(pairs.get(k), s, now, paces[k]);
            now = how[1];
            if (how[0] == 2) {
                return new int[] {k, set, now};
            }
            set |= how[0] << k;
        }
        return new int[] {NONE, set, now};
    }

    private static int[] sailFull(List<int[]> pairs, int[] s, int t) {
        int[] paces = new int[pairs.size()];
        Arrays.fill(paces, high(s));
        return sail(pairs, s, t, paces);
    }

    private static boolean clean(int[] passage) {
        return passage[0] == NONE && passage[1] == 0;
    }

    int pair(int kind, int reach, int beat, int opening) {
        if (!in(kind, 0, 3) || !in(reach, 1, 30) || !in(beat, 2, 24) || !in(opening, 1, beat)) {
            return BAD;
        }
        if (w.pairs.size() == 6) {
            return FULL;
        }
        w.pairs.add(new int[] {kind, reach, beat, opening, 0});
        return w.pairs.size() - 1;
    }

    int phase(int pair, int v) {
        if (noPair(pair) || !in(v, 0, w.pairs.get(pair)[2] - 1)) {
            return BAD;
        }
        int was = w.pairs.get(pair)[4];
        w.pairs.get(pair)[4] = v;
        return was;
    }

    int ship(int kind, int length, int speed) {
        if (!in(kind, 0, 3) || !in(length, 1, 9) || !in(speed, 1, 5)) {
            return BAD;
        }
        if (w.ships.size() == 5) {
            return FULL;
        }
        w.ships.add(new int[] {kind, length, speed});
        return w.ships.size() - 1;
    }

    int of(int pair, int what) {
        return noPair(pair) || !in(what, 0, 4) ? BAD : w.pairs.get(pair)[what];
    }

    int told(int ship, int what) {
        if (noShip(ship) || !in(what, 0, 5)) {
            return BAD;
        }
        int[] s = w.ships.get(ship);
        return new int[] {s[0], s[1], s[2], low(s), high(s), span(s)}[what];
    }

    int open(int pair, int second) {
        if (noPair(pair) || !in(second, 0, 99999)) {
            return BAD;
        }
        return opened(w.pairs.get(pair), second) ? 1 : 0;
    }

    int type(int letter) {
        if (!in(letter, 32, 126)) {
            return BAD;
        }
        if (tape.length() == 100) {
            return FULL;
        }
        tape += (char) letter;
        return tape.length();
    }

    /** Letter by letter, by what may come next. */
    int strait() {
        String text = tape;
        tape = "";
        List<int[]> pairs = new ArrayList<>();
        List<int[]> ships = new ArrayList<>();
        String expected = "pair";
        int[] row = null;
        int i = 0;
        while (true) {
            while (i < text.length() && text.charAt(i) == ' ') {
                i++;
            }
            if (i == text.length()) {
                if (!expected.equals("behind pair") && !expected.equals("behind phase") && !expected.equals("behind ship")) {
                    return -20 - i;
                }
                break;
            }
            char c = text.charAt(i);
            switch (expected) {
                case "pair":
                    if ("pstf".indexOf(c) < 0) {
                        return -20 - i;
                    }
                    row = new int[] {"pstf".indexOf(c), 0, 0, 0, 0};
                    expected = "reach";
                    i++;
                    break;
                case "reach", "beat", "opening", "phase":
                    int j = i;
                    while (j < text.length() && Character.isDigit(text.charAt(j))) {
                        j++;
                    }
                    if (j == i) {
                        return -20 - i;
                    }
                    java.math.BigInteger n = new java.math.BigInteger(text.substring(i, j));
                    int v = n.bitLength() > 20 ? 1 << 20 : n.intValue();
                    int field = List.of("kind", "reach", "beat", "opening", "phase").indexOf(expected);
                    int least = new int[] {0, 1, 2, 1, 0}[field];
                    int most = new int[] {0, 30, 24, row[2], row[2] - 1}[field];
                    if (v < least || v > most) {
                        return -20 - i;
                    }
                    row[field] = v;
                    if (field == 3) {
                        pairs.add(row);
                    }
                    expected = List.of("", "/beat", "/opening", "behind pair", "behind phase").get(field);
                    i = j;
                    break;
                case "/beat", "/opening":
                    if (c != '/') {
                        return -20 - i;
                    }
                    expected = expected.substring(1);
                    i++;
                    break;
                case "behind pair", "behind phase":
                    if (c == '+' && expected.equals("behind pair")) {
                        expected = "phase";
                    } else if (c == ',' && pairs.size() < 6) {
                        expected = "pair";
                    } else if (c == ';') {
                        expected = "ship";
                    } else {
                        return -20 - i;
                    }
                    i++;
                    break;
                case "ship":
                    if ("PTBL".indexOf(c) < 0) {
                        return -20 - i;
                    }
                    row = new int[] {"PTBL".indexOf(c), 0, 0};
                    expected = "length";
                    i++;
                    break;
                case "length":
                    if (c < '1' || c > '9') {
                        return -20 - i;
                    }
                    row[1] = c - '0';
                    expected = "speed";
                    i++;
                    break;
                case "speed":
                    if (c < '1' || c > '5') {
                        return -20 - i;
                    }
                    row[2] = c - '0';
                    ships.add(row);
                    expected = "behind ship";
                    i++;
                    break;
                default:
                    if (c != ',' || ships.size() == 5) {
                        return -20 - i;
                    }
                    expected = "ship";
                    i++;
                    break;
            }
        }
        w.pairs = pairs;
        w.ships = ships;
        w.voyage = new int[] {w.voyage[0], NONE, 0, 0};
        w.past.clear();
        return pairs.size();
    }

    int count(int what) {
        if (!in(what, 0, 7)) {
            return BAD;
        }
        return new int[] {w.pairs.size(), w.ships.size(), w.voyage[0], w.voyage[1], w.voyage[2], w.voyage[3], w.past.size(),
            w.looks.size()}[what];
    }

    private void done(int clock, int out, int passed, int scrapes) {
        w.past.add(w.voyage);
        w.voyage = new int[] {clock, out, passed, scrapes};
        if (w.past.size() > 8) {
            w.past.remove(0);
        }
    }

    int setOut(int ship) {
        if (noShip(ship)) {
            return BAD;
        }
        if (w.voyage[1] != NONE && w.voyage[2] < w.pairs.size()) {
            return NOT;
        }
        done(w.voyage[0], ship, 0, 0);
        return w.pairs.size();
    }

    int idle(int n) {
        if (!in(n, 1, 99)) {
            return BAD;
        }
        if (w.voyage[0] + n > 9999) {
            return FULL;
        }
        done(w.voyage[0] + n, w.voyage[1], w.voyage[2], w.voyage[3]);
        return w.voyage[0];
    }

    int pass(int pace) {
        int[] v = w.voyage;
        if (v[1] == NONE || v[2] >= w.pairs.size()) {
            return NOT;
        }
        int[] s = w.ships.get(v[1]);
        if (!in(pace, low(s), high(s))) {
            return BAD;
        }
        int[] how = between(w.pairs.get(v[2]), s, v[0], pace);
        if (how[1] > 9999) {
            return FULL;
        }
        if (how[0] == 2) {
            done(how[1], NONE, v[2], v[3]);
        } else {
            done(how[1], v[1], v[2] + 1, v[3] + how[0]);
        }
        return how[0];
    }

    int undo() {
        if (w.past.isEmpty()) {
            return NONE;
        }
        w.voyage = w.past.remove(w.past.size() - 1);
        return w.past.size();
    }

    int seed(int v) {
        if (v < 0) {
            return BAD;
        }
        int was = (int) w.draw;
        w.draw = v;
        return was;
    }

    int lots(int ship, int n) {
        if (noShip(ship) || !in(n, 1, 99)) {
            return BAD;
        }
        int sum = 0;
        for (int k = 0; k < n; k++) {
            w.draw = (w.draw * 1103515245L + 12345L) % (1L << 31);
            int[] passage = sailFull(w.pairs, w.ships.get(ship), (int) (w.draw / 65536 % 60));
            sum += clean(passage) ? 1 : 0;
            sum += passage[0] != NONE ? 100 : 0;
        }
        return sum;
    }

    private int bestEnd;
    private int bestBegin;
    private int[] bestPaces;

    private void tryPaces(int[] s, int begin, int now, int k, int[] paces) {
        if (k == w.pairs.size()) {
            // Rows of paces are tried in their order, so of like ones of one begin the first stays.
            if (now < bestEnd || now == bestEnd && begin > bestBegin) {
                bestEnd = now;
                bestBegin = begin;
                bestPaces = paces.clone();
            }
            return;
        }
        for (int pace = low(s); pace <= high(s); pace++) {
            int[] how = between(w.pairs.get(k), s, now, pace);
            if (how[0] == 0) {
                paces[k] = pace;
                tryPaces(s, begin, how[1], k + 1, paces);
            }
        }
    }

    int soonest(int ship, int second, int what) {
        if (noBegin(ship, second) || !in(what, -2, w.pairs.size() - 1)) {
            return BAD;
        }
        bestEnd = Integer.MAX_VALUE;
        bestBegin = -1;
        for (int t = second; t <= second + 99; t++) {
            tryPaces(w.ships.get(ship), t, t, 0, new int[w.pairs.size()]);
        }
        if (bestBegin < 0) {
            return NONE;
        }
        return what == -2 ? bestEnd : what == -1 ? bestBegin : bestPaces[what];
    }

    int full(int ship, int second, int what) {
        if (noBegin(ship, second) || !in(what, 0, 2)) {
            return BAD;
        }
        return sailFull(w.pairs, w.ships.get(ship), second)[what];
    }

    /** How many of 4 to the power of the pairs. */
    private int likely(int[] s, int t) {
        int n = w.pairs.size();
        int sum = 0;
        for (int four = 0; four < 1 << 2 * n; four++) {
            List<int[]> other = copyOf(w.pairs);
            for (int k = 0; k < n; k++) {
                int[] p = other.get(k);
                int part = four >> 2 * k & 3;
                p[4] = Math.floorMod(p[4] + (part == 0 ? -1 : part == 1 ? 1 : 0), p[2]);
            }
            sum += clean(sailFull(other, s, t)) ? 1 : 0;
        }
        return sum;
    }

    int fog(int ship, int second, int what) {
        if (noBegin(ship, second) || !in(what, 0, 1)) {
            return BAD;
        }
        int upper = likely(w.ships.get(ship), second);
        int lower = 1 << 2 * w.pairs.size();
        int g = java.math.BigInteger.valueOf(upper).gcd(java.math.BigInteger.valueOf(lower)).intValue();
        return what == 0 ? upper / g : lower / g;
    }

    int sure(int ship, int second) {
        if (noBegin(ship, second)) {
            return BAD;
        }
        int best = -1;
        int at = -1;
        for (int t = second; t <= second + 59; t++) {
            int v = likely(w.ships.get(ship), t);
            if (v > best) {
                best = v;
                at = t;
            }
        }
        return at;
    }

    private int fewest;
    private int[] fewestThrown;

    private void throwStones(int[] s, int t, int k, int[] thrown, int sum) {
        if (sum >= fewest) {
            return;
        }
        if (k == w.pairs.size()) {
            List<int[]> other = copyOf(w.pairs);
            for (int i = 0; i < k; i++) {
                other.get(i)[4] = Math.floorMod(other.get(i)[4] - thrown[i], other.get(i)[2]);
            }
            if (clean(sailFull(other, s, t))) {
                fewest = sum;
                fewestThrown = thrown.clone();
            }
            return;
        }
        for (int n = 0; n < w.pairs.get(k)[2]; n++) {
            thrown[k] = n;
            throwStones(s, t, k + 1, thrown, sum + n);
        }
    }

    int stones(int ship, int second, int pair) {
        if (noBegin(ship, second) || !in(pair, -1, w.pairs.size() - 1)) {
            return BAD;
        }
        fewest = Integer.MAX_VALUE;
        throwStones(w.ships.get(ship), second, 0, new int[w.pairs.size()], 0);
        if (fewest == Integer.MAX_VALUE) {
            return NONE;
        }
        return pair == -1 ? fewest : fewestThrown[pair];
    }

    int convoy(int pair, int second, int set) {
        if (noPair(pair) || !in(second, 0, 9999) || set < 0 || set >= Math.pow(2, w.ships.size())) {
            return BAD;
        }
        int best = 0;
        for (int some = 31; some >= 0; some--) {
            if ((some | set) != set) {
                continue;
            }
            int t = second;
            boolean isOpen = true;
            for (int s = 0; s < w.ships.size(); s++) {
                if ((some & 1 << s) != 0) {
                    for (int k = up(span(w.ships.get(s)), high(w.ships.get(s))); k > 0; k--) {
                        isOpen &= opened(w.pairs.get(pair), t);
                        t++;
                    }
                }
            }
            if (isOpen && Integer.bitCount(some) >= Integer.bitCount(best)) {
                best = some;
            }
        }
        return best;
    }

    int rudder(int ship, int second, int n) {
        if (noBegin(ship, second) || !in(n, 0, 999)) {
            return BAD;
        }
        int set = 0;
        for (int t = second; t <= second + n; t++) {
            int[] passage = sailFull(w.pairs, w.ships.get(ship), t);
            if (passage[0] == NONE) {
                set |= passage[1];
            }
        }
        return set;
    }

    int worth(int ship, int pair) {
        if (noShip(ship) || noPair(pair)) {
            return BAD;
        }
        List<int[]> blown = copyOf(w.pairs);
        // A plain pair whose opening is all of its beat is never shut.
        blown.set(pair, new int[] {0, w.pairs.get(pair)[1], 2, 2, 0});
        int more = 0;
        for (int t = 0; t <= 59; t++) {
            more += clean(sailFull(blown, w.ships.get(ship), t)) ? 1 : 0;
            more -= clean(sailFull(w.pairs, w.ships.get(ship), t)) ? 1 : 0;
        }
        return more;
    }

    int look(int second, int isOpen) {
        if (!in(second, 0, 9999) || !in(isOpen, 0, 1)) {
            return BAD;
        }
        if (w.looks.size() == 12) {
            return FULL;
        }
        w.looks.add(new int[] {second, isOpen});
        return w.looks.size();
    }

    int forget() {
        int n = w.looks.size();
        w.looks.clear();
        return n;
    }

    private List<int[]> allFits() {
        List<int[]> fits = new ArrayList<>();
        for (int b = 2; b <= 24; b++) {
            for (int o = 1; o <= b - 1; o++) {
                for (int p = 0; p <= b - 1; p++) {
                    int[] guess = {0, 1, b, o, p};
                    boolean isFit = true;
                    for (int[] look : w.looks) {
                        isFit &= plain(guess, look[0]) == (look[1] == 1);
                    }
                    if (isFit) {
                        fits.add(guess);
                    }
                }
            }
        }
        return fits;
    }

    int fits(int what) {
        if (!in(what, 0, 1)) {
            return BAD;
        }
        List<int[]> fits = allFits();
        if (what == 0) {
            return fits.size();
        }
        return fits.isEmpty() ? NONE : fits.get(0)[2] * 10000 + fits.get(0)[3] * 100 + fits.get(0)[4];
    }

    private static int openIn(List<int[]> fits, int t) {
        int n = 0;
        for (int[] fit : fits) {
            n += plain(fit, t) ? 1 : 0;
        }
        return n;
    }

    int foretell(int second) {
        if (!in(second, 0, 9999)) {
            return BAD;
        }
        List<int[]> fits = allFits();
        if (fits.isEmpty()) {
            return NONE;
        }
        int n = openIn(fits, second);
        return n == 0 ? 0 : n == fits.size() ? 1 : 2;
    }

    int next(int second, int what) {
        if (!in(second, 0, 9999) || !in(what, 0, 1)) {
            return BAD;
        }
        List<int[]> fits = allFits();
        if (fits.isEmpty()) {
            return NONE;
        }
        int best = Integer.MAX_VALUE;
        int at = -1;
        for (int t = second; t <= second + 59; t++) {
            int n = openIn(fits, t);
            int worst = Math.max(n, fits.size() - n);
            if (worst < best) {
                best = worst;
                at = t;
            }
        }
        return what == 0 ? at : best;
    }

    int image() {
        kept = w.deepCopy();
        return 1;
    }

    int restore() {
        if (kept == null) {
            return NONE;
        }
        w = kept.deepCopy();
        return 1;
    }

    private int machine(int sheet, int lane, long i, long n) {
        if (sheets[sheet] == null) {
            return NULL;
        }
        if (lanes[sheet] != lane) {
            return CAST;
        }
        return i < 0 || n < 0 || i + n > sheets[sheet].length ? INDEX : 0;
    }

    int judged(int ship, int second, int sheet, int lane, int i, int what) {
        if (noBegin(ship, second) || !in(sheet, 0, 3) || !in(lane, 0, 3) || !in(what, 0, 2)) {
            return BAD;
        }
        int found = machine(sheet, lane, i, w.pairs.size());
        if (found != 0) {
            return found;
        }
        int[] s = w.ships.get(ship);
        int[] paces = new int[w.pairs.size()];
        for (int k = 0; k < paces.length; k++) {
            if (!in(sheets[sheet][i + k], low(s), high(s))) {
                return NOT;
            }
            paces[k] = (int) sheets[sheet][i + k];
        }
        return sail(w.pairs, s, second, paces)[what];
    }

    int film(int second, int sheet, int lane, int i) {
        if (!in(second, 0, 99999) || !in(sheet, 0, 3) || !in(lane, 0, 3)) {
            return BAD;
        }
        int found = machine(sheet, lane, i, w.pairs.size());
        if (found != 0) {
            return found;
        }
        for (int k = 0; k < w.pairs.size(); k++) {
            sheets[sheet][i + k] = opened(w.pairs.get(k), second) ? 1 : 0;
        }
        return w.pairs.size();
    }

    int sheet(int sheet, int lane, int n) {
        if (!in(sheet, 0, 3) || !in(lane, 0, 3) || n > 16) {
            return BAD;
        }
        if (n < 0) {
            return SIZE;
        }
        sheets[sheet] = new long[n];
        lanes[sheet] = lane;
        return n;
    }

    int drop(int sheet) {
        if (!in(sheet, 0, 3)) {
            return BAD;
        }
        if (sheets[sheet] == null) {
            return NULL;
        }
        int n = sheets[sheet].length;
        sheets[sheet] = null;
        return n;
    }

    int item(int sheet, int lane, int i, long v) {
        if (!in(sheet, 0, 3) || !in(lane, 0, 3)) {
            return BAD;
        }
        int found = machine(sheet, lane, i, 1);
        if (found != 0) {
            return found;
        }
        int bits = 64 - (8 << lane);
        sheets[sheet][i] = v << bits >> bits;
        return 1;
    }

    int copy(int from, int i, int to, int j, int n) {
        if (!in(from, 0, 3) || !in(to, 0, 3)) {
            return BAD;
        }
        if (sheets[from] == null || sheets[to] == null) {
            return NULL;
        }
        if (lanes[from] != lanes[to]) {
            return CAST;
        }
        if (machine(from, lanes[from], i, n) != 0 || machine(to, lanes[to], j, n) != 0) {
            return INDEX;
        }
        long[] taken = Arrays.copyOfRange(sheets[from], i, i + n);
        for (int k = 0; k < n; k++) {
            sheets[to][j + k] = taken[k];
        }
        return n;
    }
}
