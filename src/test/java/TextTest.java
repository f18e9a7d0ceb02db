/** Promises 8 and 9. */
public final class TextTest {
    private static final Due due = new Due();

    public static void main(String[] args) {
        type();
        readable();
        faults();
        whatStays();
        noneHasSetOutBehindAStrait();
        due.end();
    }

    private static void type() {
        ClashRocks x = new ClashRocks();
        due.is("type(31)", x.type(31), ClashRocks.BAD);
        due.is("type(127)", x.type(127), ClashRocks.BAD);
        due.is("type(-1)", x.type(-1), ClashRocks.BAD);
        due.is("type(65648)", x.type(65536 + 'p'), ClashRocks.BAD);
        due.is("type(32)", x.type(32), 1);
        due.is("type(126)", x.type(126), 2);
        for (int i = 3; i <= 100; i++) {
            due.is("type(32)", x.type(32), i);
        }
        due.is("type(32), full", x.type(32), ClashRocks.FULL);
        due.is("type(31), wrong ahead of full", x.type(31), ClashRocks.BAD);
        due.is("strait()", x.strait(), -21);
        due.is("type(32) on an empty tape", x.type(32), 1);
    }

    private static void tells(String text, int want) {
        due.is("strait of \"" + text + "\"", Due.read(new ClashRocks(), text), want);
    }

    private static void readable() {
        ClashRocks x = new ClashRocks();
        due.is("strait", Due.read(x, " p 30 / 24 / 24 + 23 , s1/2/1,t2/3/2+0, f007/5/4 ; P 9 5,T11 , B25,L34 "), 4);
        int[][] pairs = {{0, 30, 24, 24, 23}, {1, 1, 2, 1, 0}, {2, 2, 3, 2, 0}, {3, 7, 5, 4, 0}};
        for (int i = 0; i < pairs.length; i++) {
            for (int what = 0; what < 5; what++) {
                due.is("of(" + i + ", " + what + ")", x.of(i, what), pairs[i][what]);
            }
        }
        int[][] ships = {{0, 9, 5}, {1, 1, 1}, {2, 2, 5}, {3, 3, 4}};
        due.is("count(1)", x.count(1), ships.length);
        for (int i = 0; i < ships.length; i++) {
            for (int what = 0; what < 3; what++) {
                due.is("told(" + i + ", " + what + ")", x.told(i, what), ships[i][what]);
            }
        }
        tells("p1/2/1,p1/2/1,p1/2/1,p1/2/1,p1/2/1,p1/2/1", 6);
        tells("p1/2/1,p1/2/1,p1/2/1,p1/2/1,p1/2/1,p1/2/1;P11,P11,P11,P11,P11", 6);
    }

    private static void faults() {
        tells("", -20);
        tells("   ", -23);
        tells("  q", -22);
        tells("P1/2/1", -20);
        tells("p", -21);
        tells("p ", -22);
        tells("p/", -21);
        tells("p0/2/1", -21);
        tells("p31/2/1", -21);
        tells("p99999999999999999999/2/1", -21);
        tells("p4294967297/2/1", -21);
        tells("p1", -22);
        tells("p1x", -22);
        tells("p1 2/2/1", -23);
        tells("p1/1/1", -23);
        tells("p1/25/1", -23);
        tells("p1/ 25/1", -24);
        tells("p1/5/6", -25);
        tells("p1/5/0", -25);
        tells("p1/5", -24);
        tells("p1/5/", -25);
        tells("p1/5/5/", -26);
        tells("p1/5/5+", -27);
        tells("p1/5/5+5", -27);
        tells("p1/5/5+x", -27);
        tells("p1/5/5+-1", -27);
        tells("p1/5/5+4+1", -28);
        tells("p1/5/5,", -27);
        tells("p1/5/5,,", -27);
        tells("p1/5/5;", -27);
        tells("p1/5/5;p", -27);
        tells("p1/5/5;P", -28);
        tells("p1/5/5;P0", -28);
        tells("p1/5/5;P1", -29);
        tells("p1/5/5;P10", -29);
        tells("p1/5/5;P16", -29);
        tells("p1/5/5;P1 6", -30);
        tells("p1/5/5;P155", -30);
        tells("p1/5/5;P15,", -31);
        tells("p1/5/5;P15;", -30);
        tells("p1/5/5;P15,p1/5/5", -31);
        // There is no room for a comma behind the sixth pair, nor behind the fifth ship.
        tells("p1/2/1,p1/2/1,p1/2/1,p1/2/1,p1/2/1,p1/2/1,p1/2/1", -61);
        tells("p1/2/1;P11,P11,P11,P11,P11,P11", -46);
    }

    private static void whatStays() {
        ClashRocks x = Due.strait("p5/6/3+1,s7/5/3;P32,T14");
        x.setOut(1);
        x.idle(7);
        due.is("a fault", Due.read(x, "p5/6/3,;"), -27);
        due.is("count(0)", x.count(0), 2);
        due.is("count(1)", x.count(1), 2);
        due.is("count(3)", x.count(3), 1);
        due.is("count(6)", x.count(6), 2);
        due.is("of(0, 4)", x.of(0, 4), 1);
        due.is("strait() of the empty tape", x.strait(), -20);
        x.seed(77);
        x.look(3, 1);
        due.is("a strait", Due.read(x, "t9/9/9"), 1);
        due.is("count(0)", x.count(0), 1);
        due.is("count(1)", x.count(1), 0);
        due.is("count(2)", x.count(2), 7);
        due.is("count(3)", x.count(3), ClashRocks.NONE);
        due.is("count(6)", x.count(6), 0);
        due.is("count(7)", x.count(7), 1);
        due.is("undo()", x.undo(), ClashRocks.NONE);
        due.is("seed(1)", x.seed(1), 77);
        due.is("of(0, 4)", x.of(0, 4), 0);
        due.is("pair behind a strait", x.pair(0, 1, 2, 1), 1);
        Due.read(x, "t9/9/9+1,t9/9/9+2");
        Due.read(x, "t9/9/9+1");
        x.pair(0, 1, 2, 1);
        due.is("of(1, 4), a new pair", x.of(1, 4), 0);
    }

    private static void passedAndScraped(ClashRocks x, int passed, int scrapes) {
        due.is("count(4)", x.count(4), passed);
        due.is("count(5)", x.count(5), scrapes);
    }

    /** The pairs and ships that a strait tells are new: none was passed, none has set out. */
    private static void noneHasSetOutBehindAStrait() {
        ClashRocks x = Due.strait("p1/2/1,p1/2/2,p1/2/2;P11");
        x.setOut(0);
        due.is("pass(1): not 1, its only one", x.pass(1), 1);
        due.is("pass(1)", x.pass(1), 0);
        passedAndScraped(x, 2, 1);
        due.is("a fault", Due.read(x, "p1/2/3"), -25);
        passedAndScraped(x, 2, 1);
        x.image();
        due.is("a strait", Due.read(x, "p1/2/2,p1/2/2,p1/2/2;P11"), 3);
        passedAndScraped(x, 0, 0);
        due.is("idle(1)", x.idle(1), 5);
        passedAndScraped(x, 0, 0);
        due.is("undo()", x.undo(), 0);
        passedAndScraped(x, 0, 0);
        due.is("setOut(0)", x.setOut(0), 3);
        due.is("pass(1)", x.pass(1), 0);
        passedAndScraped(x, 1, 0);
        due.is("undo()", x.undo(), 1);
        due.is("undo()", x.undo(), 0);
        passedAndScraped(x, 0, 0);
        due.is("restore()", x.restore(), 1);
        passedAndScraped(x, 2, 1);
        crushedAheadOfAStrait();
    }

    private static void crushedAheadOfAStrait() {
        ClashRocks x = Due.strait("p1/2/1,p1/24/1;P21");
        x.idle(1);
        x.setOut(0);
        due.is("pass(1): 2, not 3", x.pass(1), 1);
        due.is("pass(1): not 5 6", x.pass(1), 2);
        passedAndScraped(x, 1, 1);
        due.is("a strait", Due.read(x, "p1/2/1"), 1);
        passedAndScraped(x, 0, 0);
    }
}
