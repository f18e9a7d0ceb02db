import java.util.Arrays;

/**
 * A strait with pairs of cliffs that clash by their own beats, and ships that pass between them.
 *
 * All rows are made with the object and used again, so that no call makes anything new.
 */
public final class ClashRocks {
    public static final int BAD = -1, NOT = -2, FULL = -3, NONE = -4, NULL = -11, CAST = -12, INDEX = -13, SIZE = -14;

    private static final int MOST_PAIRS = 6;
    private static final int MOST_SHIPS = 5;
    private static final int LAST_KIND = 3;
    private static final int MOST_REACH = 30;
    private static final int LEAST_BEAT = 2;
    private static final int MOST_BEAT = 24;
    private static final int MOST_LENGTH = 9;
    private static final int MOST_SPEED = 5;
    private static final int MOST_SPAN = MOST_LENGTH + 2;
    private static final int LAST_SECOND = 9999;
    private static final int LAST_FAR_SECOND = 99999;
    private static final int MOST_UNDONE = 8;
    private static final int MOST_LOOKS = 12;
    private static final int MOST_LETTERS = 100;
    private static final int MOST_ITEMS = 16;
    private static final int LAST_LANE = 3;
    private static final int SHEETS = 4;
    /** How many seconds sure(), worth(), next() and the lots look over. */
    private static final int MINUTE = 60;
    /** How many seconds a soonest passage may begin in. */
    private static final int STARTS = 100;
    /** No pair takes longer than this, its reach with it. */
    private static final int LONGEST = MOST_REACH + MOST_SPAN;
    /** How many seconds behind its first one a soonest passage can touch. */
    private static final int SPREAD = STARTS + MOST_PAIRS * LONGEST;
    /** Above every second that a search can count. */
    private static final int NEVER = 1000000;
    private static final int NOBODY = -1;
    private static final int THROUGH = 0;
    private static final int SCRAPED = 1;
    private static final int CRUSHED = 2;
    private static final int FIRST_FAULT = -20;
    private static final char END = 0;
    private static final String PAIR_LETTERS = "pstf";
    private static final String SHIP_LETTERS = "PTBL";

    private final Waters waters = new Waters();
    private final Waters kept = new Waters();
    private boolean isKept;
    private final Tape tape = new Tape();
    private final Course course = new Course();
    private final Search search = new Search();
    private final Guess guess = new Guess();
    private final Row[] rows = new Row[SHEETS];

    public ClashRocks() {
        for (int i = 0; i < SHEETS; i++) {
            rows[i] = new Row();
        }
    }

    // ---- 1 pairs, ships

    public int pair(int kind, int reach, int beat, int opening) {
        if (!isWithin(kind, 0, LAST_KIND) || !isWithin(reach, 1, MOST_REACH)
                || !isWithin(beat, LEAST_BEAT, MOST_BEAT) || !isWithin(opening, 1, beat)) {
            return BAD;
        }
        if (waters.pairCount >= MOST_PAIRS) {
            return FULL;
        }
        waters.pairs[waters.pairCount].become(kind, reach, beat, opening);
        return waters.pairCount++;
    }

    public int phase(int pair, int v) {
        if (!isPair(pair) || !isWithin(v, 0, waters.pairs[pair].beat - 1)) {
            return BAD;
        }
        int before = waters.pairs[pair].phase;
        waters.pairs[pair].phase = v;
        return before;
    }

    public int ship(int kind, int length, int speed) {
        if (!isWithin(kind, 0, LAST_KIND) || !isWithin(length, 1, MOST_LENGTH) || !isWithin(speed, 1, MOST_SPEED)) {
            return BAD;
        }
        if (waters.shipCount >= MOST_SHIPS) {
            return FULL;
        }
        waters.ships[waters.shipCount].become(kind, length, speed);
        return waters.shipCount++;
    }

    public int of(int pair, int what) {
        if (!isPair(pair)) {
            return BAD;
        }
        Pair one = waters.pairs[pair];
        switch (what) {
            case 0: return one.kind;
            case 1: return one.reach;
            case 2: return one.beat;
            case 3: return one.opening;
            case 4: return one.phase;
            default: return BAD;
        }
    }

    public int told(int ship, int what) {
        if (!isShip(ship)) {
            return BAD;
        }
        Ship one = waters.ships[ship];
        switch (what) {
            case 0: return one.kind;
            case 1: return one.length;
            case 2: return one.speed;
            case 3: return one.low();
            case 4: return one.high();
            case 5: return one.span();
            default: return BAD;
        }
    }

    public int open(int pair, int second) {
        if (!isPair(pair) || !isWithin(second, 0, LAST_FAR_SECOND)) {
            return BAD;
        }
        return oneIf(waters.pairs[pair].isOpenNow(second));
    }

    public int type(int letter) {
        if (!isWithin(letter, 32, 126)) {
            return BAD;
        }
        return tape.add((char) letter) ? tape.size : FULL;
    }

    public int strait() {
        boolean isRead = tape.isStrait();
        int fault = FIRST_FAULT - tape.place;
        tape.size = 0;
        if (!isRead) {
            return fault;
        }
        waters.settle(tape);
        return waters.pairCount;
    }

    public int count(int what) {
        switch (what) {
            case 0: return waters.pairCount;
            case 1: return waters.shipCount;
            case 2: return waters.now.clock;
            case 3: return waters.now.out == NOBODY ? NONE : waters.now.out;
            case 4: return waters.now.passed;
            case 5: return waters.now.scrapes;
            case 6: return waters.pastCount;
            case 7: return waters.looks.size;
            default: return BAD;
        }
    }

    // ---- the ship that is out

    public int setOut(int ship) {
        if (!isShip(ship)) {
            return BAD;
        }
        Voyage now = waters.now;
        if (now.out != NOBODY && now.passed < waters.pairCount) {
            return NOT;
        }
        waters.remember();
        now.begin(ship);
        return waters.pairCount;
    }

    public int idle(int n) {
        if (!isWithin(n, 1, 99)) {
            return BAD;
        }
        if (waters.now.clock + n > LAST_SECOND) {
            return FULL;
        }
        waters.remember();
        waters.now.clock += n;
        return waters.now.clock;
    }

    public int pass(int pace) {
        Voyage now = waters.now;
        if (!isShip(now.out) || !isPair(now.passed)) {
            return NOT;
        }
        Ship ship = waters.ships[now.out];
        if (!isWithin(pace, ship.low(), ship.high())) {
            return BAD;
        }
        int how = course.goBetween(waters.pairs[now.passed], ship, now.clock, pace);
        if (course.second > LAST_SECOND) {
            return FULL;
        }
        waters.remember();
        now.clock = course.second;
        if (how == CRUSHED) {
            now.out = NOBODY;
        } else {
            now.passed++;
            now.scrapes += how == SCRAPED ? 1 : 0;
        }
        return how;
    }

    public int undo() {
        return waters.recall() ? waters.pastCount : NONE;
    }

    public int seed(int v) {
        if (v < 0) {
            return BAD;
        }
        int before = waters.draw;
        waters.draw = v;
        return before;
    }

    public int lots(int ship, int n) {
        if (!isShip(ship) || !isWithin(n, 1, 99)) {
            return BAD;
        }
        int clean = 0;
        int crushed = 0;
        for (int i = 0; i < n; i++) {
            goFull(ship, waters.drawn() % MINUTE);
            clean += course.isClean() ? 1 : 0;
            crushed += course.crusher == NONE ? 0 : 1;
        }
        return clean + 100 * crushed;
    }

    // ---- 2 what comes

    public int soonest(int ship, int second, int what) {
        if (!isBegin(ship, second) || !isWithin(what, -2, waters.pairCount - 1)) {
            return BAD;
        }
        search.findSoonest(waters, waters.ships[ship], second);
        if (search.end == NEVER) {
            return NONE;
        }
        if (what == -2) {
            return second + search.end;
        }
        return what == -1 ? second + search.begin : search.paces[what];
    }

    public int full(int ship, int second, int what) {
        if (!isBegin(ship, second) || !isWithin(what, 0, 2)) {
            return BAD;
        }
        goFull(ship, second);
        return course.judgement(what);
    }

    public int fog(int ship, int second, int what) {
        if (!isBegin(ship, second) || !isWithin(what, 0, 1)) {
            return BAD;
        }
        course.planFull(waters, waters.ships[ship], second);
        int upper = course.fogWeight(waters);
        if (upper == 0) {
            return what;
        }
        int lower = 1 << 2 * waters.pairCount;
        // The lower number is a power of two, so halves are all that both can share.
        while (upper % 2 == 0 && lower > 1) {
            upper /= 2;
            lower /= 2;
        }
        return what == 0 ? upper : lower;
    }

    public int sure(int ship, int second) {
        if (!isBegin(ship, second)) {
            return BAD;
        }
        int best = second;
        int most = -1;
        for (int t = second; t < second + MINUTE; t++) {
            course.planFull(waters, waters.ships[ship], t);
            int weight = course.fogWeight(waters);
            if (weight > most) {
                most = weight;
                best = t;
            }
        }
        return best;
    }

    public int stones(int ship, int second, int pair) {
        if (!isBegin(ship, second) || !isWithin(pair, -1, waters.pairCount - 1)) {
            return BAD;
        }
        course.planFull(waters, waters.ships[ship], second);
        int all = 0;
        int asked = 0;
        for (int k = 0; k < waters.pairCount; k++) {
            // A ship that is through everywhere comes to each pair at the same second
            // whatever was thrown at the others, so each pair has a fewest of its own.
            int thrown = course.fewestStones(waters, k);
            if (thrown == NONE) {
                return NONE;
            }
            all += thrown;
            asked = k == pair ? thrown : asked;
        }
        return pair == -1 ? all : asked;
    }

    public int convoy(int pair, int second, int set) {
        if (!isPair(pair) || !isWithin(second, 0, LAST_SECOND) || !isWithin(set, 0, (1 << waters.shipCount) - 1)) {
            return BAD;
        }
        Pair gate = waters.pairs[pair];
        int opening = gate.firstShut(second, second + MOST_SHIPS * MOST_SPAN, gate.phase) - second;
        int best = 0;
        for (int some = 1; some <= set; some++) {
            boolean isPart = (some & ~set) == 0;
            if (isPart && Integer.bitCount(some) > Integer.bitCount(best) && convoyTime(some) <= opening) {
                best = some;
            }
        }
        return best;
    }

    public int rudder(int ship, int second, int n) {
        if (!isBegin(ship, second) || !isWithin(n, 0, 999)) {
            return BAD;
        }
        int set = 0;
        for (int t = second; t <= second + n; t++) {
            goFull(ship, t);
            set |= course.crusher == NONE ? course.scrapes : 0;
        }
        return set;
    }

    public int worth(int ship, int pair) {
        if (!isShip(ship) || !isPair(pair)) {
            return BAD;
        }
        int more = 0;
        for (int t = 0; t < MINUTE; t++) {
            course.planFull(waters, waters.ships[ship], t);
            boolean isGained = course.isThroughBut(waters, pair) && !course.isThrough(waters, pair);
            more += isGained ? 1 : 0;
        }
        return more;
    }

    // ---- 3 looks

    public int look(int second, int isOpen) {
        if (!isWithin(second, 0, LAST_SECOND) || !isWithin(isOpen, 0, 1)) {
            return BAD;
        }
        return waters.looks.add(second, isOpen) ? waters.looks.size : FULL;
    }

    public int forget() {
        int before = waters.looks.size;
        waters.looks.size = 0;
        return before;
    }

    public int fits(int what) {
        if (!isWithin(what, 0, 1)) {
            return BAD;
        }
        guess.survey(waters.looks, 0, 0);
        return what == 0 ? guess.total : guess.first;
    }

    public int foretell(int second) {
        if (!isWithin(second, 0, LAST_SECOND)) {
            return BAD;
        }
        guess.survey(waters.looks, second, 1);
        if (guess.total == 0) {
            return NONE;
        }
        int open = guess.openIn[0];
        if (open == guess.total) {
            return 1;
        }
        return open == 0 ? 0 : 2;
    }

    public int next(int second, int what) {
        if (!isWithin(second, 0, LAST_SECOND) || !isWithin(what, 0, 1)) {
            return BAD;
        }
        guess.survey(waters.looks, second, MINUTE);
        if (guess.total == 0) {
            return NONE;
        }
        int best = 0;
        for (int k = 1; k < MINUTE; k++) {
            if (guess.leftAtWorst(k) < guess.leftAtWorst(best)) {
                best = k;
            }
        }
        return what == 0 ? second + best : guess.leftAtWorst(best);
    }

    public int image() {
        kept.take(waters);
        isKept = true;
        return 1;
    }

    public int restore() {
        if (!isKept) {
            return NONE;
        }
        waters.take(kept);
        return 1;
    }

    // ---- 4 sheets

    public int judged(int ship, int second, int sheet, int lane, int i, int what) {
        if (!isBegin(ship, second) || !isRow(sheet, lane) || !isWithin(what, 0, 2)) {
            return BAD;
        }
        Row row = rows[sheet];
        int refused = row.refusal(lane, i, waters.pairCount);
        if (refused != 0) {
            return refused;
        }
        Ship one = waters.ships[ship];
        for (int k = 0; k < waters.pairCount; k++) {
            long pace = row.items[i + k];
            if (pace < one.low() || pace > one.high()) {
                return NOT;
            }
            course.paces[k] = (int) pace;
        }
        course.go(waters, one, second);
        return course.judgement(what);
    }

    public int film(int second, int sheet, int lane, int i) {
        if (!isWithin(second, 0, LAST_FAR_SECOND) || !isRow(sheet, lane)) {
            return BAD;
        }
        Row row = rows[sheet];
        int refused = row.refusal(lane, i, waters.pairCount);
        if (refused != 0) {
            return refused;
        }
        for (int k = 0; k < waters.pairCount; k++) {
            row.items[i + k] = oneIf(waters.pairs[k].isOpenNow(second));
        }
        return waters.pairCount;
    }

    public int sheet(int sheet, int lane, int n) {
        if (!isRow(sheet, lane) || n > MOST_ITEMS) {
            return BAD;
        }
        if (n < 0) {
            return SIZE;
        }
        rows[sheet].begin(lane, n);
        return n;
    }

    public int drop(int sheet) {
        if (!isWithin(sheet, 0, SHEETS - 1)) {
            return BAD;
        }
        if (!rows[sheet].isHeld) {
            return NULL;
        }
        rows[sheet].isHeld = false;
        return rows[sheet].length;
    }

    public int item(int sheet, int lane, int i, long v) {
        if (!isRow(sheet, lane)) {
            return BAD;
        }
        int refused = rows[sheet].refusal(lane, i, 1);
        if (refused != 0) {
            return refused;
        }
        rows[sheet].items[i] = lowestBits(lane, v);
        return 1;
    }

    public int copy(int from, int i, int to, int j, int n) {
        if (!isWithin(from, 0, SHEETS - 1) || !isWithin(to, 0, SHEETS - 1)) {
            return BAD;
        }
        Row source = rows[from];
        Row target = rows[to];
        if (!source.isHeld || !target.isHeld) {
            return NULL;
        }
        if (source.lane != target.lane) {
            return CAST;
        }
        if (!source.hasItems(i, n) || !target.hasItems(j, n)) {
            return INDEX;
        }
        System.arraycopy(source.items, i, target.items, j, n);
        return n;
    }

    // ---- what several calls share

    private static boolean isWithin(int v, int least, int most) {
        return v >= least && v <= most;
    }

    private static int oneIf(boolean isSo) {
        return isSo ? 1 : 0;
    }

    /** How many seconds a way takes; no pace below 1 is ever asked for, but a divisor is looked at. */
    private static int secondsFor(int way, int pace) {
        return pace < 1 ? way : (way + pace - 1) / pace;
    }

    private static long lowestBits(int lane, long v) {
        switch (lane) {
            case 0: return (byte) v;
            case 1: return (short) v;
            case 2: return (int) v;
            default: return v;
        }
    }

    private boolean isPair(int pair) {
        return isWithin(pair, 0, waters.pairCount - 1);
    }

    private boolean isShip(int ship) {
        return isWithin(ship, 0, waters.shipCount - 1);
    }

    private boolean isBegin(int ship, int second) {
        return isShip(ship) && isWithin(second, 0, LAST_SECOND);
    }

    private boolean isRow(int sheet, int lane) {
        return isWithin(sheet, 0, SHEETS - 1) && isWithin(lane, 0, LAST_LANE);
    }

    private void goFull(int ship, int second) {
        Ship one = waters.ships[ship];
        Arrays.fill(course.paces, one.high());
        course.go(waters, one, second);
    }

    private int convoyTime(int some) {
        int sum = 0;
        for (int s = 0; s < waters.shipCount; s++) {
            if ((some >> s & 1) == 1) {
                sum += secondsFor(waters.ships[s].span(), waters.ships[s].high());
            }
        }
        return sum;
    }

    /** A pair of cliffs. */
    private static final class Pair {
        int kind;
        int reach = 1;
        // Never below 2, since all beats are divided by it.
        int beat = LEAST_BEAT;
        int opening = 1;
        int phase;

        void become(int newKind, int newReach, int newBeat, int newOpening) {
            kind = newKind;
            reach = newReach;
            beat = newBeat < LEAST_BEAT ? LEAST_BEAT : newBeat;
            opening = newOpening;
            phase = 0;
        }

        void take(Pair other) {
            become(other.kind, other.reach, other.beat, other.opening);
            phase = other.phase;
        }

        boolean isOpenNow(int second) {
            return isOpenAt(second, phase);
        }

        /** Whether it is open, were its phase another one. */
        boolean isOpenAt(int second, int atPhase) {
            switch (kind) {
                case 1: return isPlainOpen(second / 2, atPhase);
                case 2: return isPlainOpen(second, atPhase) || isPlainOpen(second + beat / 2, atPhase);
                case 3: return second > 0 && isPlainOpen(second / 2, atPhase) && isPlainOpen((second - 1) / 2, atPhase);
                default: return isPlainOpen(second, atPhase);
            }
        }

        private boolean isPlainOpen(int second, int atPhase) {
            return beat > 0 && (second + atPhase) % beat < opening;
        }

        /** The first second from one on in which it is shut, or the one behind them, if it is in none. */
        int firstShut(int from, int behind, int atPhase) {
            for (int t = from; t < behind; t++) {
                if (!isOpenAt(t, atPhase)) {
                    return t;
                }
            }
            return behind;
        }

        /** Its phase, behind some more beats that are fewer than a whole round. */
        int phaseBehind(int more) {
            return beat > 0 ? (phase + beat + more) % beat : phase;
        }
    }

    /** A ship. */
    private static final class Ship {
        int kind;
        int length = 1;
        int speed = 1;

        void become(int newKind, int newLength, int newSpeed) {
            kind = newKind;
            length = newLength;
            speed = newSpeed;
        }

        void take(Ship other) {
            become(other.kind, other.length, other.speed);
        }

        int low() {
            return kind == 2 ? high() : 1;
        }

        int high() {
            boolean isTowed = kind == 1 || kind == 3;
            return isTowed && speed > 2 ? 2 : speed;
        }

        int span() {
            return kind == 3 ? length + 2 : length;
        }
    }

    /** What a deed of the ship that is out can change, and what is undone with it. */
    private static final class Voyage {
        int clock;
        int out = NOBODY;
        int passed;
        int scrapes;

        void take(Voyage other) {
            clock = other.clock;
            out = other.out;
            passed = other.passed;
            scrapes = other.scrapes;
        }

        void begin(int ship) {
            out = ship;
            passed = 0;
            scrapes = 0;
        }
    }

    /** What was seen of the pair that nobody knows. */
    private static final class Looks {
        final int[] seconds = new int[MOST_LOOKS];
        final int[] seen = new int[MOST_LOOKS];
        int size;

        boolean add(int second, int isOpen) {
            if (size >= MOST_LOOKS) {
                return false;
            }
            seconds[size] = second;
            seen[size] = isOpen;
            size++;
            return true;
        }

        void take(Looks other) {
            for (int i = 0; i < MOST_LOOKS; i++) {
                seconds[i] = other.seconds[i];
                seen[i] = other.seen[i];
            }
            size = other.size;
        }
    }

    /** All that an image keeps. */
    private static final class Waters {
        final Pair[] pairs = new Pair[MOST_PAIRS];
        final Ship[] ships = new Ship[MOST_SHIPS];
        final Voyage now = new Voyage();
        final Voyage[] past = new Voyage[MOST_UNDONE];
        final Looks looks = new Looks();
        int pairCount;
        int shipCount;
        int pastCount;
        int draw = 1;

        Waters() {
            for (int i = 0; i < MOST_PAIRS; i++) {
                pairs[i] = new Pair();
            }
            for (int i = 0; i < MOST_SHIPS; i++) {
                ships[i] = new Ship();
            }
            for (int i = 0; i < MOST_UNDONE; i++) {
                past[i] = new Voyage();
            }
        }

        void take(Waters other) {
            takePairsAndShips(other.pairs, other.pairCount, other.ships, other.shipCount);
            now.take(other.now);
            for (int i = 0; i < MOST_UNDONE; i++) {
                past[i].take(other.past[i]);
            }
            pastCount = other.pastCount;
            draw = other.draw;
            looks.take(other.looks);
        }

        /** The strait that a tape has just been read as comes in place of this one. */
        void settle(Tape tape) {
            takePairsAndShips(tape.pairs, tape.pairCount, tape.ships, tape.shipCount);
            // Of these ships none has set out yet, so there is none that could have passed a pair.
            now.begin(NOBODY);
            pastCount = 0;
        }

        private void takePairsAndShips(Pair[] newPairs, int newPairCount, Ship[] newShips, int newShipCount) {
            for (int i = 0; i < newPairCount && i < MOST_PAIRS; i++) {
                pairs[i].take(newPairs[i]);
            }
            for (int i = 0; i < newShipCount && i < MOST_SHIPS; i++) {
                ships[i].take(newShips[i]);
            }
            pairCount = newPairCount;
            shipCount = newShipCount;
        }

        /** Keeps what is ahead of a deed; the oldest goes where there is no room. */
        void remember() {
            if (pastCount >= MOST_UNDONE) {
                for (int i = 1; i < MOST_UNDONE; i++) {
                    past[i - 1].take(past[i]);
                }
                pastCount = MOST_UNDONE - 1;
            }
            past[pastCount].take(now);
            pastCount++;
        }

        boolean recall() {
            if (pastCount <= 0) {
                return false;
            }
            pastCount--;
            now.take(past[pastCount]);
            return true;
        }

        int drawn() {
            draw = draw * 1103515245 + 12345 & 0x7fffffff;
            return draw / 65536;
        }
    }

    /** The letters that were typed, and what they are read as. */
    private static final class Tape {
        final char[] letters = new char[MOST_LETTERS];
        final Pair[] pairs = new Pair[MOST_PAIRS];
        final Ship[] ships = new Ship[MOST_SHIPS];
        int size;
        int pairCount;
        int shipCount;
        /** Where the reader stands: behind a reading that failed, the place of the fault. */
        int place;

        Tape() {
            for (int i = 0; i < MOST_PAIRS; i++) {
                pairs[i] = new Pair();
            }
            for (int i = 0; i < MOST_SHIPS; i++) {
                ships[i] = new Ship();
            }
        }

        boolean add(char letter) {
            if (size >= MOST_LETTERS) {
                return false;
            }
            letters[size] = letter;
            size++;
            return true;
        }

        boolean isStrait() {
            place = 0;
            pairCount = 0;
            shipCount = 0;
            boolean isMore = true;
            while (isMore && pairCount < MOST_PAIRS) {
                if (!isPairRead(pairs[pairCount])) {
                    return false;
                }
                pairCount++;
                isMore = pairCount < MOST_PAIRS && isTaken(',');
            }
            if (isTaken(';') && !areShipsRead()) {
                return false;
            }
            return letterHere() == END;
        }

        private boolean areShipsRead() {
            boolean isMore = true;
            while (isMore && shipCount < MOST_SHIPS) {
                if (!isShipRead(ships[shipCount])) {
                    return false;
                }
                shipCount++;
                isMore = shipCount < MOST_SHIPS && isTaken(',');
            }
            return true;
        }

        private boolean isPairRead(Pair pair) {
            int kind = kindRead(PAIR_LETTERS);
            int reach = kind < 0 ? -1 : numberRead(1, MOST_REACH);
            if (reach < 0 || !isTaken('/')) {
                return false;
            }
            int beat = numberRead(LEAST_BEAT, MOST_BEAT);
            if (beat < 0 || !isTaken('/')) {
                return false;
            }
            int opening = numberRead(1, beat);
            if (opening < 0) {
                return false;
            }
            int phase = isTaken('+') ? numberRead(0, beat - 1) : 0;
            if (phase < 0) {
                return false;
            }
            pair.become(kind, reach, beat, opening);
            pair.phase = phase;
            return true;
        }

        private boolean isShipRead(Ship ship) {
            int kind = kindRead(SHIP_LETTERS);
            int length = kind < 0 ? -1 : digitRead(MOST_LENGTH);
            int speed = length < 0 ? -1 : digitRead(MOST_SPEED);
            if (speed < 0) {
                return false;
            }
            ship.become(kind, length, speed);
            return true;
        }

        /** The letter that comes next behind blanks. */
        private char letterHere() {
            while (place < size && letters[place] == ' ') {
                place++;
            }
            return place < size ? letters[place] : END;
        }

        private boolean isTaken(char letter) {
            if (letterHere() != letter) {
                return false;
            }
            place++;
            return true;
        }

        private int kindRead(String kinds) {
            int kind = kinds.indexOf(letterHere());
            place += kind < 0 ? 0 : 1;
            return kind;
        }

        private int digitRead(int most) {
            int digit = letterHere() - '0';
            if (!isWithin(digit, 1, most)) {
                return -1;
            }
            place++;
            return digit;
        }

        private int numberRead(int least, int most) {
            letterHere();
            int start = place;
            int number = 0;
            while (place < size && isWithin(letters[place], '0', '9')) {
                // Beyond all limits it need not grow, and so never wraps around.
                number = Math.min(number * 10 + letters[place] - '0', LAST_SECOND);
                place++;
            }
            if (place == start || !isWithin(number, least, most)) {
                place = start;
                return -1;
            }
            return number;
        }
    }

    /** A passage: by which paces, when it is between, and what became of it. */
    private static final class Course {
        final int[] paces = new int[MOST_PAIRS];
        final int[] comes = new int[MOST_PAIRS];
        final int[] leaves = new int[MOST_PAIRS];
        int crusher = NONE;
        int scrapes;
        int second;

        /** One pair is passed: how; the second is then the one behind, or that of the crush. */
        int goBetween(Pair pair, Ship ship, int from, int pace) {
            int first = from + secondsFor(pair.reach, pace);
            int behind = first + secondsFor(ship.span(), pace);
            int shut = pair.firstShut(first, behind, pair.phase);
            if (shut < behind - 1) {
                second = shut;
                return CRUSHED;
            }
            second = behind;
            return shut == behind ? THROUGH : SCRAPED;
        }

        void go(Waters waters, Ship ship, int from) {
            crusher = NONE;
            scrapes = 0;
            second = from;
            for (int k = 0; k < waters.pairCount && crusher == NONE; k++) {
                int how = goBetween(waters.pairs[k], ship, second, paces[k]);
                scrapes |= how == SCRAPED ? 1 << k : 0;
                crusher = how == CRUSHED ? k : NONE;
            }
        }

        boolean isClean() {
            return crusher == NONE && scrapes == 0;
        }

        int judgement(int what) {
            switch (what) {
                case 0: return crusher;
                case 1: return scrapes;
                default: return second;
            }
        }

        /** When a full one is between which pair, if none ahead crushes it. */
        void planFull(Waters waters, Ship ship, int from) {
            int t = from;
            for (int k = 0; k < waters.pairCount; k++) {
                comes[k] = t + secondsFor(waters.pairs[k].reach, ship.high());
                leaves[k] = comes[k] + secondsFor(ship.span(), ship.high());
                t = leaves[k];
            }
        }

        private boolean isThroughBy(Waters waters, int pair, int phase) {
            return waters.pairs[pair].firstShut(comes[pair], leaves[pair], phase) == leaves[pair];
        }

        boolean isThrough(Waters waters, int pair) {
            return isThroughBy(waters, pair, waters.pairs[pair].phase);
        }

        boolean isThroughBut(Waters waters, int pair) {
            for (int k = 0; k < waters.pairCount; k++) {
                if (k != pair && !isThrough(waters, k)) {
                    return false;
                }
            }
            return true;
        }

        /** How likely the plan is clean in fog, as upper number of 4 to the power of the pairs. */
        int fogWeight(Waters waters) {
            int product = 1;
            for (int k = 0; k < waters.pairCount && product > 0; k++) {
                Pair pair = waters.pairs[k];
                product *= 2 * oneIf(isThrough(waters, k))
                        + oneIf(isThroughBy(waters, k, pair.phaseBehind(-1)))
                        + oneIf(isThroughBy(waters, k, pair.phaseBehind(1)));
            }
            return product;
        }

        int fewestStones(Waters waters, int pair) {
            Pair one = waters.pairs[pair];
            for (int n = 0; n < one.beat; n++) {
                if (isThroughBy(waters, pair, one.phaseBehind(-n))) {
                    return n;
                }
            }
            return NONE;
        }
    }

    /** The soonest clean passage; all seconds in it are counted from the one at which it may begin. */
    private static final class Search {
        /** For each pair and second: the soonest end of what begins ahead of that pair then. */
        final int[][] ends = new int[MOST_PAIRS + 1][SPREAD];
        /** How long the pair that is looked at stays open from a second on. */
        final int[] openFor = new int[SPREAD + 1];
        final int[] paces = new int[MOST_PAIRS];
        int begin;
        int end;

        void findSoonest(Waters waters, Ship ship, int from) {
            int pairs = waters.pairCount;
            for (int t = 0; t < SPREAD; t++) {
                ends[pairs][t] = t;
            }
            for (int k = pairs - 1; k >= 0; k--) {
                int limit = STARTS + k * LONGEST;
                measure(waters.pairs[k], from, limit + LONGEST);
                for (int t = 0; t < limit; t++) {
                    ends[k][t] = soonestEnd(waters.pairs[k], ship, k, t);
                }
            }
            end = NEVER;
            for (int t = 0; t < STARTS; t++) {
                // Of like ones the last counts, but two that never end are not alike.
                if (ends[0][t] <= end && ends[0][t] != NEVER) {
                    end = ends[0][t];
                    begin = t;
                }
            }
            if (end != NEVER) {
                tellPaces(waters, ship, from);
            }
        }

        private void measure(Pair pair, int from, int limit) {
            openFor[limit] = 0;
            for (int t = limit - 1; t >= 0; t--) {
                openFor[t] = pair.isOpenNow(from + t) ? openFor[t + 1] + 1 : 0;
            }
        }

        /** The second behind the pair that was measured, or NEVER where the ship is not through. */
        private int behindBy(Pair pair, Ship ship, int t, int pace) {
            int comes = t + secondsFor(pair.reach, pace);
            int takes = secondsFor(ship.span(), pace);
            return comes + takes < SPREAD && openFor[comes] >= takes ? comes + takes : NEVER;
        }

        private int soonestEnd(Pair pair, Ship ship, int k, int t) {
            int best = NEVER;
            for (int pace = ship.low(); pace <= ship.high(); pace++) {
                int behind = behindBy(pair, ship, t, pace);
                if (behind != NEVER) {
                    best = Math.min(best, ends[k + 1][behind]);
                }
            }
            return best;
        }

        private void tellPaces(Waters waters, Ship ship, int from) {
            int t = begin;
            for (int k = 0; k < waters.pairCount; k++) {
                measure(waters.pairs[k], from, STARTS + (k + 1) * LONGEST);
                paces[k] = firstPace(waters.pairs[k], ship, k, t);
                t += secondsFor(waters.pairs[k].reach, paces[k]) + secondsFor(ship.span(), paces[k]);
            }
        }

        private int firstPace(Pair pair, Ship ship, int k, int t) {
            for (int pace = ship.low(); pace < ship.high(); pace++) {
                int behind = behindBy(pair, ship, t, pace);
                if (behind != NEVER && ends[k + 1][behind] == end) {
                    return pace;
                }
            }
            return ship.high();
        }
    }

    /** All beats, openings and phases that the looks leave. */
    private static final class Guess {
        /** In how many fits of one beat the pair is open, for each second of the beat. */
        final int[] openBy = new int[MOST_BEAT];
        /** In how many fits the pair is open, for each second that is asked for. */
        final int[] openIn = new int[MINUTE];
        int total;
        int first;
        /** Which seconds of the beat that is looked at have been seen open, and shut. */
        int seenOpen;
        int seenShut;

        /** Goes through all fits, for some seconds from one on. */
        void survey(Looks looks, int from, int seconds) {
            total = 0;
            first = NONE;
            Arrays.fill(openIn, 0);
            for (int beat = LEAST_BEAT; beat <= MOST_BEAT; beat++) {
                Arrays.fill(openBy, 0);
                fold(looks, beat);
                for (int opening = 1; opening < beat; opening++) {
                    surveyPhases(beat, opening);
                }
                for (int k = 0; k < seconds && k < MINUTE; k++) {
                    openIn[k] += openBy[(from + k) % beat];
                }
            }
        }

        private void fold(Looks looks, int beat) {
            seenOpen = 0;
            seenShut = 0;
            for (int i = 0; i < looks.size && beat > 0; i++) {
                int bit = 1 << looks.seconds[i] % beat;
                seenOpen |= looks.seen[i] == 1 ? bit : 0;
                seenShut |= looks.seen[i] == 1 ? 0 : bit;
            }
        }

        private void surveyPhases(int beat, int opening) {
            int round = (1 << beat) - 1;
            int unshifted = (1 << opening) - 1;
            for (int phase = 0; phase < beat; phase++) {
                int open = (unshifted >> phase | unshifted << beat - phase) & round;
                if ((seenOpen & ~open) != 0 || (seenShut & open) != 0) {
                    continue;
                }
                first = total == 0 ? 10000 * beat + 100 * opening + phase : first;
                total++;
                for (int t = 0; t < beat; t++) {
                    openBy[t] += open >> t & 1;
                }
            }
        }

        int leftAtWorst(int k) {
            return Math.max(openIn[k], total - openIn[k]);
        }
    }

    /** A sheet: nothing, or a row of a lane. */
    private static final class Row {
        final long[] items = new long[MOST_ITEMS];
        boolean isHeld;
        int lane;
        int length;

        void begin(int newLane, int newLength) {
            isHeld = true;
            lane = newLane;
            length = newLength;
            Arrays.fill(items, 0L);
        }

        boolean hasItems(int i, int n) {
            return i >= 0 && n >= 0 && i <= length - n;
        }

        /** What the machine would find when n items from i on are taken as those of a lane; 0: nothing. */
        int refusal(int asLane, int i, int n) {
            if (!isHeld) {
                return NULL;
            }
            if (lane != asLane) {
                return CAST;
            }
            return hasItems(i, n) ? 0 : INDEX;
        }
    }
}
