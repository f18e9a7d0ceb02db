/** Promises 10 to 16. */
public final class VoyageTest {
    private static final Due due = new Due();

    public static void main(String[] args) {
        count();
        setOutAndPass();
        refusals();
        endOfClock();
        undo();
        lots();
        due.end();
    }

    private static void counts(ClashRocks x, int clock, int out, int passed, int scrapes, int undone) {
        due.is("count(2)", x.count(2), clock);
        due.is("count(3)", x.count(3), out);
        due.is("count(4)", x.count(4), passed);
        due.is("count(5)", x.count(5), scrapes);
        due.is("count(6)", x.count(6), undone);
    }

    private static void count() {
        ClashRocks x = Due.strait("p1/2/1,p1/2/1;P11,P11,P11");
        due.is("count(0)", x.count(0), 2);
        due.is("count(1)", x.count(1), 3);
        due.is("count(-1)", x.count(-1), ClashRocks.BAD);
        due.is("count(8)", x.count(8), ClashRocks.BAD);
        x.look(0, 0);
        x.look(0, 0);
        due.is("count(7)", x.count(7), 2);
    }

    /** The pair is open in seconds 0 1 2, 6 7 8, 12 13 14 and so on. */
    private static void setOutAndPass() {
        ClashRocks x = Due.strait("p4/6/3,p6/6/3,p1/6/3;P31,P32");
        due.is("setOut(0)", x.setOut(0), 3);
        counts(x, 0, 0, 0, 0, 1);
        due.is("idle(2)", x.idle(2), 2);
        due.is("pass(1): 6 7 8", x.pass(1), 0);
        counts(x, 9, 0, 1, 0, 3);
        due.is("idle(4)", x.idle(4), 13);
        due.is("pass(1): 19 20, not 21", x.pass(1), 1);
        counts(x, 22, 0, 2, 1, 5);
        due.is("setOut(1), one is out", x.setOut(1), ClashRocks.NOT);
        due.is("pass(1): not 23", x.pass(1), 2);
        counts(x, 23, ClashRocks.NONE, 2, 1, 6);
        due.is("pass(1), none is out", x.pass(1), ClashRocks.NOT);
        due.is("setOut(1)", x.setOut(1), 3);
        counts(x, 23, 1, 0, 0, 7);
        due.is("pass(2): 25 26", x.pass(2), 0);
        counts(x, 27, 1, 1, 0, 8);
        oneSecondBetween();
        crushedLater();
    }

    private static void oneSecondBetween() {
        ClashRocks x = Due.strait("p1/6/3;P22");
        x.setOut(0);
        x.idle(4);
        due.is("pass(2): not 5, its only one", x.pass(2), 1);
        counts(x, 6, 0, 1, 1, 3);
        due.is("pass(2), no pair ahead", x.pass(2), ClashRocks.NOT);
        due.is("setOut(0), behind the last pair", x.setOut(0), 1);
        counts(x, 6, 0, 0, 0, 4);
    }

    private static void crushedLater() {
        ClashRocks x = Due.strait("p1/6/3;P41");
        x.setOut(0);
        due.is("pass(1): 1 2, not 3 4", x.pass(1), 2);
        counts(x, 3, ClashRocks.NONE, 0, 0, 2);
        due.is("pair ahead of a ship behind the last", behindTheLast(), 1);
    }

    private static int behindTheLast() {
        ClashRocks x = Due.strait("p1/6/6;P11");
        x.setOut(0);
        x.pass(1);
        x.pair(0, 1, 2, 2);
        due.is("setOut(0), a new pair is ahead", x.setOut(0), ClashRocks.NOT);
        due.is("pass(1), of the new pair", x.pass(1), 0);
        return x.count(0) - 1;
    }

    private static void refusals() {
        ClashRocks x = Due.strait("p4/6/3;B23,L15");
        due.is("pass(3)", x.pass(3), ClashRocks.NOT);
        due.is("pass(-1)", x.pass(-1), ClashRocks.NOT);
        due.is("setOut(-1)", x.setOut(-1), ClashRocks.BAD);
        due.is("setOut(2)", x.setOut(2), ClashRocks.BAD);
        due.is("setOut(0)", x.setOut(0), 1);
        due.is("setOut(2), wrong ahead of not", x.setOut(2), ClashRocks.BAD);
        due.is("pass(2), blind", x.pass(2), ClashRocks.BAD);
        due.is("pass(4), blind", x.pass(4), ClashRocks.BAD);
        due.is("pass(0)", x.pass(0), ClashRocks.BAD);
        due.is("idle(0)", x.idle(0), ClashRocks.BAD);
        due.is("idle(100)", x.idle(100), ClashRocks.BAD);
        due.is("idle(-1)", x.idle(-1), ClashRocks.BAD);
        counts(x, 0, 0, 0, 0, 1);
    }

    private static void endOfClock() {
        ClashRocks x = Due.strait("p2/2/2,p1/24/2;P21");
        for (int i = 0; i < 100; i++) {
            x.idle(99);
        }
        due.is("idle(96)", x.idle(96), 9996);
        x.setOut(0);
        due.is("pass(1), behind at 10000", x.pass(1), ClashRocks.FULL);
        due.is("idle(4)", x.idle(4), ClashRocks.FULL);
        due.is("idle(100), wrong ahead of full", x.idle(100), ClashRocks.BAD);
        due.is("undo()", x.undo(), 7);
        due.is("undo()", x.undo(), 6);
        due.is("idle(95)", x.idle(95), 9995);
        x.setOut(0);
        due.is("pass(1), behind at 9999", x.pass(1), 0);
        due.is("pass(1), the crush would be at 10000", x.pass(1), ClashRocks.FULL);
        due.is("idle(1)", x.idle(1), ClashRocks.FULL);
        counts(x, 9999, 0, 1, 0, 8);
        x.undo();
        due.is("idle(4), to the very end", x.idle(4), 9999);
        due.is("idle(1)", x.idle(1), ClashRocks.FULL);
        crushAheadOfTheEnd();
    }

    private static void crushAheadOfTheEnd() {
        // Its clock is that of the crush, so a crush at 9999 is not beyond the end.
        ClashRocks x = Due.strait("p1/24/2;P91");
        for (int i = 0; i < 100; i++) {
            x.idle(99);
        }
        x.idle(98);
        x.setOut(0);
        due.is("pass(1), crushed at 9999", x.pass(1), 2);
        counts(x, 9999, ClashRocks.NONE, 0, 0, 8);
    }

    private static void undo() {
        ClashRocks x = Due.strait("p4/6/3,p6/6/3;P31");
        x.setOut(0);
        x.idle(2);
        x.pass(1);
        x.idle(4);
        x.pass(1);
        counts(x, 22, 0, 2, 1, 5);
        x.seed(9);
        x.phase(0, 5);
        x.pair(0, 1, 2, 1);
        due.is("undo()", x.undo(), 4);
        counts(x, 13, 0, 1, 0, 4);
        due.is("undo()", x.undo(), 3);
        counts(x, 9, 0, 1, 0, 3);
        due.is("undo()", x.undo(), 2);
        counts(x, 2, 0, 0, 0, 2);
        due.is("undo()", x.undo(), 1);
        due.is("undo()", x.undo(), 0);
        counts(x, 0, ClashRocks.NONE, 0, 0, 0);
        due.is("undo()", x.undo(), ClashRocks.NONE);
        due.is("seed(1)", x.seed(1), 9);
        due.is("of(0, 4)", x.of(0, 4), 5);
        due.is("count(0)", x.count(0), 3);
        for (int i = 1; i <= 11; i++) {
            x.idle(i);
            due.is("count(6)", x.count(6), Math.min(i, 8));
        }
        for (int i = 7; i >= 0; i--) {
            due.is("undo()", x.undo(), i);
        }
        due.is("count(2)", x.count(2), 1 + 2 + 3);
        due.is("undo()", x.undo(), ClashRocks.NONE);
    }

    private static void lots() {
        ClashRocks x = Due.strait("p1/6/3;P22,P31");
        due.is("seed(-1)", x.seed(-1), ClashRocks.BAD);
        due.is("lots(2, 1)", x.lots(2, 1), ClashRocks.BAD);
        due.is("lots(-1, 1)", x.lots(-1, 1), ClashRocks.BAD);
        due.is("lots(0, 0)", x.lots(0, 0), ClashRocks.BAD);
        due.is("lots(0, 100)", x.lots(0, 100), ClashRocks.BAD);
        due.is("seed(1), refused lots draw nothing", x.seed(1), 1);
        long draw = 1;
        int clean = 0;
        int crushed = 0;
        for (int i = 0; i < 99; i++) {
            draw = (draw * 1103515245L + 12345L) % 2147483648L;
            long begin = draw / 65536 % 60;
            long comes = (begin + 1) % 6;
            clean += comes == 0 ? 1 : 0;
            crushed += comes == 0 || comes == 1 ? 0 : 1;
        }
        due.is("lots(1, 99)", x.lots(1, 99), clean + 100 * crushed);
        due.is("seed(1)", x.seed(1), draw);
        // The first draw from 1 is 1103527590: by 65536 that is 16838, 38 left over by 60.
        due.is("lots(0, 1): not 39", x.lots(0, 1), 0);
        due.is("seed", x.seed(Integer.MAX_VALUE), 1103527590);
        due.is("seed", x.seed(0), Integer.MAX_VALUE);
        due.is("lots(0, 1), at 0", x.lots(0, 1), 1);
        due.is("seed", x.seed(0), 12345);
        due.is("lots without pairs", openWater(), 7);
    }

    private static int openWater() {
        ClashRocks x = new ClashRocks();
        x.ship(0, 1, 1);
        return x.lots(0, 7);
    }
}
