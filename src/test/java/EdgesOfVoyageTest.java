/** The edges of the ship that is out: passing a pair, the clock, what may be undone, lots; promises 10 to 16. */
public final class EdgesOfVoyageTest extends Edges {
    public static void main(String[] args) {
        throughScrapedCrushed();
        oneSecondBetween();
        goesOnBehindTheLast();
        clockAtFirst();
        noneIsOutAtFirst();
        behindTheLastPair();
        count();
        whichShipIsOut();
        passedAndScraped();
        setOutOfNoShip();
        setOutWhileOneIsOut();
        setOutWithoutPairs();
        noneIsOutButThis();
        idle();
        idleToTheEnd();
        passNot();
        passBad();
        passFull();
        passInThisOrder();
        passClock();
        undoneDeeds();
        undoOfNothing();
        eightAreKnown();
        refusedIsNotKnown();
        whatUndoLeaves();
        seed();
        lotsBad();
        lotsByTheDraw();
        lotsWrapAround();
        lotsCounted();
        due.end();
    }

    /** Passing one pair by a pace of 1 from second 0 on: how, and the clock then. */
    private static void passes(String text, int how, int clock) {
        ClashRocks x = Due.strait(text);
        x.setOut(0);
        due.is("pass(1) of " + text, x.pass(1), how);
        due.is("count(2) of " + text, x.count(2), clock);
        due.is("count(3) of " + text, x.count(3), how == 2 ? NONE : 0);
    }

    /** It is between in 1 2 3. */
    private static void throughScrapedCrushed() {
        terms("It is THROUGH (0), if it is OPEN in all these; SCRAPED (1), if only in the last one not; else CRUSHED (2).");
        passes("p1/24/3+23;P31", 0, 4);
        passes("p1/24/3+0;P31", 1, 4);
        passes("p1/24/3+1;P31", 2, 2);
        passes("p1/24/3+22;P31", 2, 1);
        passes("p1/24/3+2;P31", 2, 1);
        passes("p1/2/1+1;P31", 2, 2);
        passes("p1/2/1+0;P31", 2, 1);
        passes("p1/24/1+23;P21", 1, 3);
        passes("p1/24/1+22;P21", 2, 1);
        passes("p1/24/1+0;P21", 2, 1);
    }

    private static void oneSecondBetween() {
        terms("SCRAPED (1), if only in the last one not");
        passes("p1/2/1+1;P11", 0, 2);
        passes("p1/2/1+0;P11", 1, 2);
    }

    private static void goesOnBehindTheLast() {
        terms("THROUGH or SCRAPED it goes on from the second behind the last.");
        // Between in 1 2 and 4 5, whether the first is open in 2 or not.
        ClashRocks through = Due.strait("p1/24/2+23,p1/24/2+20;P21");
        due.is("full(0, 0, 0)", through.full(0, 0, 0), NONE);
        due.is("full(0, 0, 1)", through.full(0, 0, 1), 0);
        due.is("full(0, 0, 2)", through.full(0, 0, 2), 6);
        ClashRocks scraped = Due.strait("p1/24/1+23,p1/24/2+20;P21");
        due.is("full(0, 0, 0)", scraped.full(0, 0, 0), NONE);
        due.is("full(0, 0, 1)", scraped.full(0, 0, 1), 1);
        due.is("full(0, 0, 2)", scraped.full(0, 0, 2), 6);
        scraped.setOut(0);
        due.is("pass(1)", scraped.pass(1), 1);
        due.is("pass(1)", scraped.pass(1), 0);
        due.is("count(2)", scraped.count(2), 6);
    }

    private static void clockAtFirst() {
        terms("THE CLOCK (0 .. 9999; 0 at first) is a second");
        ClashRocks x = new ClashRocks();
        due.is("count(2)", x.count(2), 0);
        idleTo(x, 9999);
        due.is("count(2)", x.count(2), 9999);
        due.is("idle(1)", x.idle(1), FULL);
        due.is("count(2)", x.count(2), 9999);
    }

    private static void noneIsOutAtFirst() {
        terms("ONE ship is out, or none (at first)");
        ClashRocks x = new ClashRocks();
        due.is("count(3)", x.count(3), NONE);
        x.ship(0, 1, 1);
        x.pair(0, 1, 2, 2);
        due.is("count(3)", x.count(3), NONE);
        due.is("pass(1)", x.pass(1), NOT);
    }

    private static void behindTheLastPair() {
        terms("it is ahead of a PAIR, or behind the last one");
        ClashRocks x = Due.strait("p1/2/2;P11");
        x.setOut(0);
        due.is("pass(1)", x.pass(1), 0);
        due.is("count(3), still out", x.count(3), 0);
        due.is("pass(1), none ahead", x.pass(1), NOT);
        due.is("idle(9)", x.idle(9), 11);
        due.is("count(3), still out", x.count(3), 0);
    }

    private static void count() {
        promise(10, "BAD.");
        ClashRocks x = Due.strait("p1/2/2,p1/2/2;P11,P11,P11");
        badBeyond("count", 0, 7, x::count);
        row("count", x::count, 2, 3, 0, NONE, 0, 0, 0, 0, BAD);
    }

    private static void whichShipIsOut() {
        promise(10, "3 which SHIP is out (NONE)");
        ClashRocks x = Due.strait("p1/2/2;P11,P11,P11,P11,P91");
        due.is("count(3)", x.count(3), NONE);
        x.setOut(4);
        due.is("count(3)", x.count(3), 4);
        x.pass(1);
        x.setOut(0);
        due.is("count(3)", x.count(3), 0);
    }

    private static void passedAndScraped() {
        promise(10, "4 PAIRS that the one which set out last has PASSED, 5 how often that was SCRAPED (0 before)");
        // By 1 and a length of 2: between in 1 2, 4 5, 7 8; scraped, scraped, crushed.
        ClashRocks x = Due.strait("p1/24/1+23,p1/24/1+20,p1/24/1+10;P21");
        row("count", x::count, 3, 1, 0, NONE, 0, 0);
        x.setOut(0);
        row("count", x::count, 3, 1, 0, 0, 0, 0);
        due.is("pass(1)", x.pass(1), 1);
        row("count", x::count, 3, 1, 3, 0, 1, 1);
        due.is("pass(1)", x.pass(1), 1);
        row("count", x::count, 3, 1, 6, 0, 2, 2);
        due.is("pass(1)", x.pass(1), 2);
        row("count, it set out last all the same", x::count, 3, 1, 7, NONE, 2, 2);
        x.setOut(0);
        row("count, of the next one", x::count, 3, 1, 7, 0, 0, 0);
    }

    private static void setOutOfNoShip() {
        promise(11, "BAD; NOT: one is out that has PAIRS ahead.");
        ClashRocks x = Due.strait("p1/2/2;P11,P11");
        badBeyond("setOut", 0, 1, x::setOut);
        due.is("count(3)", x.count(3), NONE);
        due.is("setOut(1)", x.setOut(1), 1);
        badBeyond("setOut, while one is out", 0, 1, x::setOut);
        due.is("count(3)", x.count(3), 1);
    }

    private static void setOutWhileOneIsOut() {
        promise(11, "NOT: one is out that has PAIRS ahead.");
        ClashRocks x = Due.strait("p1/2/2,p1/2/2;P11,P11");
        due.is("setOut(0)", x.setOut(0), 2);
        due.is("setOut(0), itself", x.setOut(0), NOT);
        due.is("setOut(1)", x.setOut(1), NOT);
        x.pass(1);
        due.is("setOut(1), one pair ahead", x.setOut(1), NOT);
        row("count", x::count, 2, 2, 2, 0, 1, 0, 2);
        x.pass(1);
        due.is("setOut(1), none ahead", x.setOut(1), 2);
        due.is("count(3)", x.count(3), 1);
    }

    private static void setOutWithoutPairs() {
        promise(11, "A SHIP sets out (none is out then but this): how many PAIRS lie ahead.");
        ClashRocks x = new ClashRocks();
        x.ship(0, 1, 1);
        x.ship(0, 1, 1);
        due.is("setOut(0)", x.setOut(0), 0);
        due.is("setOut(1), no pair is ahead of the other", x.setOut(1), 0);
        due.is("count(3)", x.count(3), 1);
        for (int i = 0; i < 6; i++) {
            x.pair(0, 1, 2, 2);
        }
        due.is("setOut(0), pairs came ahead", x.setOut(0), NOT);
        ClashRocks six = Due.strait("p1/2/2,p1/2/2,p1/2/2,p1/2/2,p1/2/2,p1/2/2;P11");
        due.is("setOut(0)", six.setOut(0), 6);
    }

    private static void noneIsOutButThis() {
        promise(11, "A SHIP sets out (none is out then but this)");
        ClashRocks x = Due.strait("p1/2/2;P11,P22");
        x.setOut(0);
        x.pass(1);
        due.is("setOut(1)", x.setOut(1), 1);
        due.is("pass(2), by the other's pace", x.pass(2), 0);
        row("count", x::count, 1, 2, 4, 1, 1, 0);
    }

    private static void idle() {
        promise(12, "n seconds (1 .. 99) go by: THE CLOCK.");
        ClashRocks x = new ClashRocks();
        badBeyond("idle", 1, 99, x::idle);
        due.is("count(2)", x.count(2), 0);
        due.is("idle(1)", x.idle(1), 1);
        due.is("idle(99)", x.idle(99), 100);
    }

    private static void idleToTheEnd() {
        promise(12, "BAD; FULL: it would be above 9999.");
        ClashRocks x = new ClashRocks();
        idleTo(x, 9901);
        due.is("idle(99)", x.idle(99), FULL);
        due.is("count(2)", x.count(2), 9901);
        due.is("idle(98)", x.idle(98), 9999);
        due.is("idle(1)", x.idle(1), FULL);
        badBeyond("idle", 1, 99, x::idle);
        due.is("count(2)", x.count(2), 9999);
    }

    private static void passNot() {
        promise(13, "NOT: none is out, no PAIR is ahead");
        ClashRocks x = Due.strait("p1/24/1;P31");
        due.is("none has set out", x.pass(1), NOT);
        x.setOut(0);
        due.is("pass(1): not in 1 2 3", x.pass(1), 2);
        due.is("none is out any more", x.pass(1), NOT);
        ClashRocks y = Due.strait("p1/2/2;P11");
        y.setOut(0);
        y.pass(1);
        due.is("behind the last pair", y.pass(1), NOT);
        ClashRocks z = new ClashRocks();
        z.ship(0, 1, 1);
        z.setOut(0);
        due.is("no pair at all", z.pass(1), NOT);
    }

    private static void passBad() {
        promise(13, "BAD: not its LOW .. HIGH");
        int[][] lowHighs = {{1, 4}, {1, 2}, {4, 4}, {1, 2}};
        for (int ship = 0; ship < 4; ship++) {
            for (int pace = lowHighs[ship][0]; pace <= lowHighs[ship][1]; pace++) {
                ClashRocks x = Due.strait("p1/2/2;P14,T14,B14,L14");
                x.setOut(ship);
                badBeyond("pass of ship " + ship, lowHighs[ship][0], lowHighs[ship][1], x::pass);
                due.is("pass(0) of ship " + ship, x.pass(0), BAD);
                due.is("pass(" + pace + ") of ship " + ship, x.pass(pace), 0);
            }
        }
    }

    private static void passFull() {
        promise(13, "FULL: THE CLOCK would be above 9999.");
        // A reach of 3 and a length of 2 take 5 seconds.
        ClashRocks x = Due.strait("p3/2/2;P21");
        idleTo(x, 9994);
        x.setOut(0);
        due.is("pass(1), to 9999", x.pass(1), 0);
        due.is("count(2)", x.count(2), 9999);
        ClashRocks y = Due.strait("p3/2/2;P21");
        idleTo(y, 9995);
        y.setOut(0);
        due.is("pass(1), to 10000", y.pass(1), FULL);
        row("count", y::count, 1, 1, 9995, 0, 0, 0, 8);
        // Open in 9998 alone of both: scraped.
        ClashRocks scraped = Due.strait("p3/24/1+10;P21");
        idleTo(scraped, 9995);
        scraped.setOut(0);
        due.is("pass(1), scraped to 10000", scraped.pass(1), FULL);
        due.is("count(3)", scraped.count(3), 0);
        // It comes at 9999 and is crushed then, or comes at 10000 and is crushed there.
        ClashRocks crushed = Due.strait("p3/24/1;P21");
        idleTo(crushed, 9997);
        crushed.setOut(0);
        due.is("pass(1), crushed at 10000", crushed.pass(1), FULL);
        due.is("count(3)", crushed.count(3), 0);
        ClashRocks sooner = Due.strait("p3/24/1;P21");
        idleTo(sooner, 9996);
        sooner.setOut(0);
        due.is("pass(1), crushed at 9999", sooner.pass(1), 2);
        due.is("count(2)", sooner.count(2), 9999);
    }

    private static void passInThisOrder() {
        promise(13, "(In this order.)");
        ClashRocks x = Due.strait("p30/2/2;P11");
        due.is("NOT ahead of BAD, none is out", x.pass(9), NOT);
        idleTo(x, 9999);
        due.is("NOT ahead of all, none is out", x.pass(0), NOT);
        x.setOut(0);
        due.is("BAD ahead of FULL", x.pass(2), BAD);
        due.is("FULL", x.pass(1), FULL);
        ClashRocks y = Due.strait("p1/2/2;P11");
        y.setOut(0);
        y.pass(1);
        due.is("NOT ahead of BAD, no pair is ahead", y.pass(9), NOT);
    }

    private static void passClock() {
        promise(13, "THE CLOCK is the second behind the last (CRUSHED: that of the first in which it was not OPEN; none is out then).");
        passes("p1/24/9+23;P91", 0, 10);
        passes("p1/24/8+23;P91", 1, 10);
        passes("p1/24/7+23;P91", 2, 8);
        passes("p1/24/1+23;P91", 2, 2);
        passes("p1/24/8+22;P91", 2, 1);
    }

    /** What count tells from 2 to 6. */
    private static void voyage(ClashRocks x, int clock, int out, int passed, int scrapes, int undone) {
        int[] wants = {clock, out, passed, scrapes, undone};
        row("count from 2 on", what -> x.count(2 + what), wants);
    }

    private static void undoneDeeds() {
        terms("UNDONE: the latest setOut(), idle(), pass() is as it had not been");
        // Between in 1 2, 4 5, 7 8: through, scraped, crushed.
        ClashRocks x = Due.strait("p1/24/2+23,p1/24/1+20,p1/24/1+10;P21,P21");
        x.setOut(1);
        x.pass(1);
        x.pass(1);
        x.pass(1);
        x.setOut(0);
        x.idle(2);
        voyage(x, 9, 0, 0, 0, 6);
        due.is("undo() of idle()", x.undo(), 5);
        voyage(x, 7, 0, 0, 0, 5);
        due.is("undo() of setOut()", x.undo(), 4);
        voyage(x, 7, NONE, 2, 1, 4);
        due.is("undo() of a pass() that crushed", x.undo(), 3);
        voyage(x, 6, 1, 2, 1, 3);
        due.is("undo() of a pass() that scraped", x.undo(), 2);
        voyage(x, 3, 1, 1, 0, 2);
        due.is("undo() of a pass()", x.undo(), 1);
        voyage(x, 0, 1, 0, 0, 1);
        due.is("undo() of the first", x.undo(), 0);
        voyage(x, 0, NONE, 0, 0, 0);
    }

    private static void undoOfNothing() {
        promise(14, "NONE: none is known.");
        ClashRocks x = new ClashRocks();
        due.is("undo()", x.undo(), NONE);
        x.idle(1);
        due.is("undo()", x.undo(), 0);
        due.is("undo()", x.undo(), NONE);
        due.is("undo(), what is undone can't be undone", x.undo(), NONE);
        due.is("count(2)", x.count(2), 0);
    }

    private static void eightAreKnown() {
        terms("(8 are known, older ones lost;");
        ClashRocks x = new ClashRocks();
        for (int i = 1; i <= 8; i++) {
            x.idle(i);
            due.is("count(6)", x.count(6), i);
        }
        x.idle(9);
        due.is("count(6)", x.count(6), 8);
        int clock = 45;
        for (int i = 9; i >= 2; i--) {
            clock -= i;
            due.is("undo()", x.undo(), i - 2);
            due.is("count(2)", x.count(2), clock);
        }
        due.is("undo(), the first idle(1) is lost", x.undo(), NONE);
        due.is("count(2)", x.count(2), 1);
        for (int i = 0; i < 30; i++) {
            x.idle(1);
        }
        row("undo, of 30", v -> x.undo(), 7, 6, 5, 4, 3, 2, 1, 0, NONE);
        due.is("count(2)", x.count(2), 23);
    }

    private static void refusedIsNotKnown() {
        terms("What is refused changes nothing, but as told.");
        ClashRocks x = Due.strait("p1/2/2;P11");
        idleTo(x, 9999);
        for (int i = 0; i < 8; i++) {
            x.undo();
        }
        // Eight times at most 99 are undone: the clock is 9207 then.
        due.is("count(2)", x.count(2), 9999 - 8 * 99);
        x.setOut(0);
        x.setOut(0);
        x.setOut(7);
        x.idle(0);
        x.idle(100);
        x.pass(0);
        x.pass(2);
        due.is("count(6), of one deed", x.count(6), 1);
        x.undo();
        idleTo(x, 9999);
        x.idle(1);
        x.idle(99);
        x.setOut(0);
        x.pass(1);
        due.is("undo(), of setOut()", x.undo(), 7);
        due.is("undo(), of idle(99)", x.undo(), 6);
        due.is("count(2)", x.count(2), 9900);
    }

    private static void whatUndoLeaves() {
        terms("PAIRS, SHIPS, THE DRAW stay as they are");
        ClashRocks x = Due.strait("p1/24/2;P21");
        x.idle(5);
        x.pair(1, 2, 3, 1);
        x.phase(0, 7);
        x.ship(3, 4, 5);
        x.seed(77);
        x.lots(0, 1);
        x.look(1, 1);
        int draw = (int) ((77 * 1103515245L + 12345L) % (1L << 31));
        due.is("undo()", x.undo(), 0);
        row("count", x::count, 2, 2, 0, NONE, 0, 0, 0, 1);
        row("of(0, ..)", what -> x.of(0, what), 0, 1, 24, 2, 7);
        row("of(1, ..)", what -> x.of(1, what), 1, 2, 3, 1, 0);
        row("told(1, ..)", what -> x.told(1, what), 3, 4, 5);
        due.is("seed(0)", x.seed(0), draw);
    }

    private static void seed() {
        promise(15, "BAD: below 0.");
        ClashRocks x = new ClashRocks();
        due.is("seed(-1)", x.seed(-1), BAD);
        due.is("seed(MIN)", x.seed(MIN), BAD);
        terms("THE DRAW is a number of 31 bits (1 at first)");
        due.is("seed(0)", x.seed(0), 1);
        due.is("seed(MAX)", x.seed(MAX), 0);
        due.is("seed(-1)", x.seed(-1), BAD);
        due.is("seed(1)", x.seed(1), MAX);
    }

    private static void lotsBad() {
        promise(16, "LOTS, n (1 .. 99): how many are CLEAN, and 100 times how many are CRUSHED. BAD.");
        ClashRocks x = Due.strait("p1/2/2;P11,P11");
        badBeyond("lots, n", 1, 99, n -> x.lots(0, n));
        badBeyond("lots, its ship", 0, 1, ship -> x.lots(ship, 1));
        due.is("seed(1), nothing was drawn", x.seed(1), 1);
        due.is("lots(0, 1)", x.lots(0, 1), 1);
        due.is("lots(1, 99)", x.lots(1, 99), 99);
    }

    private static void lotsByTheDraw() {
        terms("and counts by 65536 (cut): left over by 60 it is the second at which a FULL ONE begins");
        // From 0 the draw becomes 12345, which counts 0: it is between in 1 2. A second off it is not clean.
        ClashRocks x = Due.strait("p1/24/2+23;P21");
        x.seed(0);
        due.is("lots(0, 1), at 0", x.lots(0, 1), 1);
        due.is("seed(1)", x.seed(1), 12345);
        // From 1 it becomes 1103527590, which counts 16838: 38, so it is between in 39 40.
        due.is("phase(0, 9)", x.phase(0, 9), 23);
        due.is("lots(0, 1), at 38", x.lots(0, 1), 1);
        due.is("seed(1)", x.seed(1), 1103527590);
        x.phase(0, 8);
        due.is("lots(0, 1), shut in 39", x.lots(0, 1), 100);
        x.seed(1);
        x.phase(0, 10);
        due.is("lots(0, 1), shut in 40", x.lots(0, 1), 0);
    }

    private static void lotsWrapAround() {
        terms("each time it becomes the lowest 31 bits of itself times 1103515245 and 12345 more");
        ClashRocks x = Due.strait("p1/24/2+18;P21");
        x.seed(MAX);
        // One round of 31 bits less 1103515245, and 12345 more: 1043980748, which counts 15929: 29.
        due.is("lots(0, 1), between in 30 31", x.lots(0, 1), 1);
        due.is("seed(MAX)", x.seed(MAX), 1043980748);
        java.math.BigInteger draw = java.math.BigInteger.valueOf(MAX);
        java.math.BigInteger round = java.math.BigInteger.TWO.pow(31);
        for (int i = 0; i < 99; i++) {
            draw = draw.multiply(java.math.BigInteger.valueOf(1103515245)).add(java.math.BigInteger.valueOf(12345)).mod(round);
        }
        x.lots(0, 99);
        due.is("seed(1), 99 draws on", x.seed(1), draw.intValue());
    }

    private static void lotsCounted() {
        promise(16, "how many are CLEAN, and 100 times how many are CRUSHED.");
        due.is("99 clean", Due.strait("p1/2/2;P91").lots(0, 99), 99);
        due.is("99 crushed", Due.strait("p1/24/1;P31").lots(0, 99), 9900);
        ClashRocks mixed = Due.strait("p1/2/1;P11");
        int odd = 0;
        long draw = 1;
        for (int i = 0; i < 99; i++) {
            draw = (draw * 1103515245L + 12345L) % (1L << 31);
            odd += (int) (draw / 65536 % 60 % 2);
        }
        due.is("those that are scraped count for neither", mixed.lots(0, 99), odd);
    }
}
