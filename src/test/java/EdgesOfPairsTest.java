/** The edges of the first part of the terms, and of promises 1 to 7. */
public final class EdgesOfPairsTest extends Edges {
    public static void main(String[] args) {
        openWater();
        pairsAsTheyCome();
        kindsOfPairs();
        reach();
        beat();
        opening();
        newPairsPhase();
        aSeventhPair();
        phase();
        phaseOfNoPair();
        of();
        plain();
        slow();
        twice();
        stiff();
        open();
        shipsAsTheyCome();
        kindsOfShips();
        length();
        speed();
        aSixthShip();
        told();
        plainShip();
        towed();
        blind();
        laden();
        reachCutUpwards();
        spanCutUpwards();
        due.end();
    }

    private static void openWater() {
        promise(1, "Open water.");
        ClashRocks x = new ClashRocks();
        row("count", x::count, 0, 0, 0, NONE, 0, 0, 0, 0);
        due.is("of(0, 0)", x.of(0, 0), BAD);
        due.is("phase(0, 0)", x.phase(0, 0), BAD);
        due.is("open(0, 0)", x.open(0, 0), BAD);
        due.is("told(0, 0)", x.told(0, 0), BAD);
        due.is("setOut(0)", x.setOut(0), BAD);
        due.is("pass(1)", x.pass(1), NOT);
        due.is("undo()", x.undo(), NONE);
        due.is("restore()", x.restore(), NONE);
        due.is("forget()", x.forget(), 0);
        due.is("strait()", x.strait(), -20);
        row("drop", x::drop, NULL, NULL, NULL, NULL);
        due.is("the first pair", x.pair(0, 1, 2, 1), 0);
        due.is("the first ship", x.ship(0, 1, 1), 0);
    }

    private static void pairsAsTheyCome() {
        terms("PAIRS 0 .. 5, as they come");
        ClashRocks x = new ClashRocks();
        for (int i = 0; i < 6; i++) {
            due.is("of(" + i + ", 1) ahead of it", x.of(i, 1), BAD);
            due.is("pair " + i, x.pair(0, 11 + i, 2, 1), i);
        }
        for (int i = 0; i < 6; i++) {
            due.is("of(" + i + ", 1)", x.of(i, 1), 11 + i);
        }
        due.is("of(6, 1)", x.of(6, 1), BAD);
    }

    private static void kindsOfPairs() {
        terms("is of a KIND");
        ClashRocks x = new ClashRocks();
        badBeyond("pair, its kind", 0, 3, kind -> x.pair(kind, 1, 2, 1));
        row("pair, its kind", kind -> x.pair(kind, 1, 2, 1), 0, 1, 2, 3);
        row("of(.., 0)", pair -> x.of(pair, 0), 0, 1, 2, 3, BAD);
    }

    private static void reach() {
        terms("each has a REACH (1 .. 30: how far it is from the one ahead, or the harbour)");
        ClashRocks x = new ClashRocks();
        badBeyond("pair, its reach", 1, 30, reach -> x.pair(0, reach, 2, 1));
        due.is("count(0)", x.count(0), 0);
        due.is("pair(0, 1, 2, 1)", x.pair(0, 1, 2, 1), 0);
        due.is("pair(0, 30, 2, 1)", x.pair(0, 30, 2, 1), 1);
        due.is("of(0, 1)", x.of(0, 1), 1);
        due.is("of(1, 1)", x.of(1, 1), 30);
    }

    private static void beat() {
        terms("a BEAT (2 .. 24 seconds)");
        ClashRocks x = new ClashRocks();
        badBeyond("pair, its beat", 2, 24, beat -> x.pair(0, 1, beat, 1));
        due.is("pair, a beat of 0", x.pair(0, 1, 0, 0), BAD);
        due.is("count(0)", x.count(0), 0);
        due.is("pair(0, 1, 2, 1)", x.pair(0, 1, 2, 1), 0);
        due.is("pair(0, 1, 24, 1)", x.pair(0, 1, 24, 1), 1);
        due.is("of(0, 2)", x.of(0, 2), 2);
        due.is("of(1, 2)", x.of(1, 2), 24);
    }

    private static void opening() {
        terms("an OPENING (1 .. BEAT)");
        ClashRocks x = new ClashRocks();
        badBeyond("pair, its opening of 2", 1, 2, opening -> x.pair(0, 1, 2, opening));
        badBeyond("pair, its opening of 24", 1, 24, opening -> x.pair(0, 1, 24, opening));
        due.is("count(0)", x.count(0), 0);
        due.is("pair(0, 1, 2, 2)", x.pair(0, 1, 2, 2), 0);
        due.is("pair(0, 1, 24, 24)", x.pair(0, 1, 24, 24), 1);
        due.is("pair(0, 1, 24, 1)", x.pair(0, 1, 24, 1), 2);
        row("of(.., 3)", pair -> x.of(pair, 3), 2, 24, 1);
    }

    private static void newPairsPhase() {
        promise(2, "A PAIR, PHASE 0: its number.");
        ClashRocks x = Due.strait("p1/5/2+4,p1/5/2+3");
        Due.read(x, "p1/5/2+4");
        due.is("a pair in the place of one that had a phase", x.pair(0, 1, 5, 2), 1);
        due.is("of(1, 4)", x.of(1, 4), 0);
        due.is("of(0, 4)", x.of(0, 4), 4);
    }

    private static void aSeventhPair() {
        promise(2, "BAD; FULL: 6.");
        ClashRocks x = Due.strait("p1/2/1,p1/2/1,p1/2/1,p1/2/1,p1/2/1");
        due.is("the sixth", x.pair(3, 30, 24, 24), 5);
        due.is("a seventh", x.pair(0, 1, 2, 1), FULL);
        due.is("a seventh, its kind wrong", x.pair(4, 1, 2, 1), BAD);
        due.is("a seventh, its reach wrong", x.pair(0, 31, 2, 1), BAD);
        due.is("a seventh, its beat wrong", x.pair(0, 1, 25, 1), BAD);
        due.is("a seventh, its opening wrong", x.pair(0, 1, 2, 3), BAD);
        due.is("count(0)", x.count(0), 6);
        due.is("of(5, 0)", x.of(5, 0), 3);
    }

    private static void phase() {
        terms("a PHASE (0 .. BEAT less 1)");
        ClashRocks x = Due.strait("p1/2/1,p1/24/1");
        badBeyond("phase of a beat of 2", 0, 1, v -> x.phase(0, v));
        badBeyond("phase of a beat of 24", 0, 23, v -> x.phase(1, v));
        promise(3, "PHASE of a PAIR becomes v: what it was.");
        due.is("phase(0, 1)", x.phase(0, 1), 0);
        due.is("phase(0, 0)", x.phase(0, 0), 1);
        due.is("phase(1, 23)", x.phase(1, 23), 0);
        due.is("phase(1, 24), refused", x.phase(1, 24), BAD);
        due.is("of(1, 4)", x.of(1, 4), 23);
        due.is("phase(1, 23), the same", x.phase(1, 23), 23);
        due.is("of(0, 4)", x.of(0, 4), 0);
    }

    private static void phaseOfNoPair() {
        promise(3, "BAD.");
        ClashRocks x = Due.strait("p1/2/1,p1/2/1");
        badBeyond("phase of a pair", 0, 1, pair -> x.phase(pair, 0));
    }

    private static void of() {
        promise(5, "BAD.");
        ClashRocks x = Due.strait("t9/8/7+6,p1/2/1");
        badBeyond("of a pair", 0, 1, pair -> x.of(pair, 0));
        badBeyond("of, what", 0, 4, what -> x.of(0, what));
        row("of(0, ..)", what -> x.of(0, what), 2, 9, 8, 7, 6, BAD);
    }

    private static void plain() {
        terms("0 PLAIN: if T and PHASE, left over by BEAT, is less than OPENING.");
        ClashRocks x = Due.strait("p1/5/2+4,p1/2/1,p1/24/1+23,p1/24/24");
        opens(x, 0, 0, "011000110");
        // 99995 and 4 is 99999: 4 left over by 5.
        opens(x, 0, 99995, "01100");
        opens(x, 1, 0, "1010");
        opens(x, 1, 99998, "10");
        opens(x, 2, 0, "0100000000000000000000000100");
        opens(x, 3, 22, "1111");
    }

    private static void slow() {
        terms("Below it 1 SLOW: as PLAIN is at T by 2, cut");
        ClashRocks x = Due.strait("s1/2/1,s1/3/1+2");
        opens(x, 0, 0, "110011001");
        // 99998 and 99999 by 2 are 49999.
        opens(x, 0, 99996, "1100");
        opens(x, 1, 0, "0011000011");
    }

    private static void twice() {
        terms("2 TWICE: if PLAIN is so at T, or at T and half a BEAT (cut) more.");
        ClashRocks x = Due.strait("t1/5/1,t1/3/1,t1/2/1,t1/24/1,t1/5/1+3");
        opens(x, 0, 0, "1001010010");
        opens(x, 1, 0, "101101");
        opens(x, 2, 0, "1111");
        opens(x, 3, 0, "1000000000001000000000001");
        opens(x, 4, 0, "1010010100");
    }

    private static void stiff() {
        terms("3 STIFF (below SLOW): as SLOW, if that is so at T less 1, too (never in second 0).");
        ClashRocks x = Due.strait("f1/2/2,f1/2/1,f1/2/1+1,f1/3/2");
        opens(x, 0, 0, "0111");
        opens(x, 1, 0, "010001000");
        opens(x, 2, 0, "0001000100");
        opens(x, 3, 0, "0111000111");
        opens(x, 0, 99998, "11");
    }

    private static void open() {
        promise(7, "Whether a PAIR is OPEN in a second (0 .. 99999; 1, 0). BAD.");
        ClashRocks x = Due.strait("p1/2/2,p1/2/1+1");
        badBeyond("open, its second", 0, 99999, second -> x.open(0, second));
        badBeyond("open, its pair", 0, 1, pair -> x.open(pair, 0));
        due.is("open(0, 0)", x.open(0, 0), 1);
        due.is("open(0, 99999)", x.open(0, 99999), 1);
        due.is("open(1, 0)", x.open(1, 0), 0);
        due.is("open(1, 99998)", x.open(1, 99998), 0);
    }

    private static void shipsAsTheyCome() {
        terms("SHIPS 0 .. 4, as they come");
        ClashRocks x = new ClashRocks();
        for (int i = 0; i < 5; i++) {
            due.is("told(" + i + ", 1) ahead of it", x.told(i, 1), BAD);
            due.is("ship " + i, x.ship(0, 9 - i, 1), i);
        }
        row("told(.., 1)", ship -> x.told(ship, 1), 9, 8, 7, 6, 5, BAD);
    }

    private static void kindsOfShips() {
        terms("a SPEED (1 .. 5), are of a KIND");
        ClashRocks x = new ClashRocks();
        badBeyond("ship, its kind", 0, 3, kind -> x.ship(kind, 1, 1));
        row("ship, its kind", kind -> x.ship(kind, 1, 1), 0, 1, 2, 3);
        row("told(.., 0)", ship -> x.told(ship, 0), 0, 1, 2, 3, BAD);
    }

    private static void length() {
        terms("have a LENGTH (1 .. 9)");
        ClashRocks x = new ClashRocks();
        badBeyond("ship, its length", 1, 9, length -> x.ship(0, length, 1));
        due.is("count(1)", x.count(1), 0);
        due.is("ship(0, 1, 1)", x.ship(0, 1, 1), 0);
        due.is("ship(0, 9, 1)", x.ship(0, 9, 1), 1);
        row("told(.., 1)", ship -> x.told(ship, 1), 1, 9);
    }

    private static void speed() {
        terms("a SPEED (1 .. 5)");
        ClashRocks x = new ClashRocks();
        badBeyond("ship, its speed", 1, 5, speed -> x.ship(0, 1, speed));
        due.is("count(1)", x.count(1), 0);
        due.is("ship(0, 1, 1)", x.ship(0, 1, 1), 0);
        due.is("ship(0, 1, 5)", x.ship(0, 1, 5), 1);
        row("told(.., 2)", ship -> x.told(ship, 2), 1, 5);
    }

    private static void aSixthShip() {
        promise(4, "BAD; FULL: 5.");
        ClashRocks x = Due.strait("p1/2/1;P11,P11,P11,P11");
        due.is("the fifth", x.ship(3, 9, 5), 4);
        due.is("a sixth", x.ship(0, 1, 1), FULL);
        due.is("a sixth, its kind wrong", x.ship(-1, 1, 1), BAD);
        due.is("a sixth, its length wrong", x.ship(0, 10, 1), BAD);
        due.is("a sixth, its speed wrong", x.ship(0, 1, 6), BAD);
        due.is("count(1)", x.count(1), 5);
        due.is("told(4, 0)", x.told(4, 0), 3);
    }

    private static void told() {
        promise(6, "BAD.");
        ClashRocks x = Due.strait("p1/2/1;L45,P11");
        badBeyond("told of a ship", 0, 1, ship -> x.told(ship, 0));
        badBeyond("told, what", 0, 5, what -> x.told(0, what));
        row("told(0, ..)", what -> x.told(0, what), 3, 4, 5, 1, 2, 6, BAD);
    }

    /** LOW, HIGH and SPAN of ships of a kind and all speeds, the first with a length of 1, the others of 9. */
    private static void lowHighSpan(int kind, int[] lows, int[] highs, int shortSpan, int longSpan) {
        ClashRocks x = new ClashRocks();
        for (int speed = 1; speed <= 5; speed++) {
            x.ship(kind, speed == 1 ? 1 : 9, speed);
        }
        row("LOW", ship -> x.told(ship, 3), lows);
        row("HIGH", ship -> x.told(ship, 4), highs);
        row("SPAN", ship -> x.told(ship, 5), shortSpan, longSpan, longSpan, longSpan, longSpan);
    }

    private static void plainShip() {
        terms("0 PLAIN: LOW 1, HIGH SPEED, SPAN LENGTH.");
        lowHighSpan(0, new int[] {1, 1, 1, 1, 1}, new int[] {1, 2, 3, 4, 5}, 1, 9);
    }

    private static void towed() {
        terms("Below it 1 TOWED: HIGH 2 at most.");
        lowHighSpan(1, new int[] {1, 1, 1, 1, 1}, new int[] {1, 2, 2, 2, 2}, 1, 9);
    }

    private static void blind() {
        terms("2 BLIND: LOW as HIGH.");
        lowHighSpan(2, new int[] {1, 2, 3, 4, 5}, new int[] {1, 2, 3, 4, 5}, 1, 9);
    }

    private static void laden() {
        terms("3 LADEN (below TOWED): HIGH as TOWED, SPAN 2 more.");
        lowHighSpan(3, new int[] {1, 1, 1, 1, 1}, new int[] {1, 2, 2, 2, 2}, 3, 11);
    }

    /** When a full one from second 0 is behind a pair that is never shut. */
    private static void takes(String text, int want) {
        due.is("full(0, 0, 2) of " + text, Due.strait(text).full(0, 0, 2), want);
    }

    private static void reachCutUpwards() {
        terms("it takes REACH by PACE, cut upwards, seconds");
        takes("p1/2/2;P11", 1 + 1);
        takes("p1/2/2;P15", 1 + 1);
        takes("p5/2/2;P15", 1 + 1);
        takes("p6/2/2;P15", 2 + 1);
        takes("p28/2/2;P14", 7 + 1);
        takes("p29/2/2;P14", 8 + 1);
        takes("p30/2/2;P15", 6 + 1);
        takes("p30/2/2;P11", 30 + 1);
    }

    private static void spanCutUpwards() {
        terms("a PAIR then SPAN by PACE, cut upwards, seconds.");
        takes("p1/2/2;P55", 1 + 1);
        takes("p1/2/2;P65", 1 + 2);
        takes("p1/2/2;P95", 1 + 2);
        takes("p1/2/2;P91", 1 + 9);
        takes("p1/2/2;L81", 1 + 10);
        takes("p1/2/2;L82", 1 + 5);
        takes("p1/2/2;L95", 1 + 6);
    }
}
