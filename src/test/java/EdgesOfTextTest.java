/** The edges of texts: what the terms say of a strait, and promises 8 and 9. */
public final class EdgesOfTextTest extends Edges {
    private static final String SIX_PAIRS = "p1/2/1,s1/2/1,t1/2/1,f1/2/1,p1/2/1,p1/2/1";
    private static final String FIVE_SHIPS = "P11,T11,B11,L11,P11";

    public static void main(String[] args) {
        lettersThatMayBe();
        aHundredLetters();
        emptyBehindAStrait();
        emptyBehindAFault();
        allStays();
        howManyPairs();
        oneToSixPairs();
        kindsOfPairs();
        threeNumbers();
        phase();
        oneToFiveShips();
        kindsOfShips();
        lengthAndSpeed();
        inPlaceOfAll();
        clockStaysNoneIsOut();
        nothingToBeUndone();
        firstLetter();
        theEnd();
        blanks();
        blanksEndANumber();
        numbersThatMayNotBe();
        numbersBeyondAll();
        due.end();
    }

    private static void tells(String text, int want) {
        due.is("strait of \"" + text + "\"", Due.read(new ClashRocks(), text), want);
    }

    private static void lettersThatMayBe() {
        promise(8, "BAD: not 32 .. 126");
        ClashRocks x = new ClashRocks();
        badBeyond("type", 32, 126, x::type);
        due.is("type(0)", x.type(0), BAD);
        due.is("type(256 + 'p')", x.type(256 + 'p'), BAD);
        due.is("type(65536 + 'p')", x.type(65536 + 'p'), BAD);
        promise(8, "One letter more behind THE TAPE: how many it has.");
        due.is("type(32)", x.type(32), 1);
        due.is("type(126)", x.type(126), 2);
        due.is("type(31), refused", x.type(31), BAD);
        due.is("type(126)", x.type(126), 3);
        due.is("strait(): behind a blank", x.strait(), -21);
    }

    private static void aHundredLetters() {
        promise(8, "FULL: 100.");
        ClashRocks x = new ClashRocks();
        Due.write(x, "p1/2/1");
        for (int i = 7; i <= 99; i++) {
            x.type(' ');
        }
        due.is("the hundredth", x.type(' '), 100);
        due.is("one more", x.type('+'), FULL);
        due.is("one more, that may not be", x.type(127), BAD);
        due.is("one more", x.type('+'), FULL);
        due.is("strait(), without the one more", x.strait(), 1);
        due.is("type behind it", x.type(' '), 1);
    }

    private static void emptyBehindAStrait() {
        promise(9, "THE TAPE, which is empty then, is a STRAIT: how many PAIRS.");
        ClashRocks x = new ClashRocks();
        due.is("strait", Due.read(x, "p1/2/1"), 1);
        due.is("strait() of an empty tape", x.strait(), -20);
        due.is("count(0)", x.count(0), 1);
        due.is("type", x.type('s'), 1);
    }

    private static void emptyBehindAFault() {
        promise(9, "A FAULT (all stays).");
        ClashRocks x = new ClashRocks();
        due.is("a fault", Due.read(x, "p1/2/3"), -25);
        due.is("strait() of an empty tape", x.strait(), -20);
        due.is("type", x.type('s'), 1);
    }

    private static void allStays() {
        promise(9, "A FAULT (all stays).");
        for (String text : new String[] {"", "q", "p9/9/9,t9/9/10", "p9/9/9;P99", "p9/9/9+1;T11,", SIX_PAIRS + ",p1/2/1"}) {
            ClashRocks x = Due.strait("p1/2/2+1,s7/5/3+4;P11,L25");
            x.setOut(0);
            x.pass(1);
            x.look(3, 1);
            x.seed(44);
            x.sheet(1, 2, 7);
            due.is("a fault in \"" + text + "\"", Due.read(x, text) <= -20 ? 1 : 0, 1);
            row("count", x::count, 2, 2, 2, 0, 1, 0, 2, 1);
            row("of(0, ..)", what -> x.of(0, what), 0, 1, 2, 2, 1);
            row("of(1, ..)", what -> x.of(1, what), 1, 7, 5, 3, 4);
            row("told(0, ..)", what -> x.told(0, what), 0, 1, 1);
            row("told(1, ..)", what -> x.told(1, what), 3, 2, 5);
            due.is("seed(1)", x.seed(1), 44);
            due.is("drop(1)", x.drop(1), 7);
            due.is("undo()", x.undo(), 1);
            due.is("restore()", x.restore(), NONE);
        }
    }

    private static void howManyPairs() {
        promise(9, "THE TAPE, which is empty then, is a STRAIT: how many PAIRS.");
        String text = "p1/2/1";
        for (int pairs = 1; pairs <= 6; pairs++) {
            tells(text, pairs);
            tells(text + ";P11,P11", pairs);
            text += ",p1/2/1";
        }
    }

    private static void oneToSixPairs() {
        terms("A STRAIT is a TEXT: 1 to 6 PAIRS with , between");
        tells("", -20);
        tells(";P11", -20);
        tells(",p1/2/1", -20);
        tells("p1/2/1", 1);
        tells("p1/2/1,", -27);
        tells("p1/2/1,,p1/2/1", -27);
        tells("p1/2/1p1/2/1", -26);
        tells("p1/2/1;p1/2/1", -27);
        tells(SIX_PAIRS, 6);
        tells(SIX_PAIRS + ",", -20 - SIX_PAIRS.length());
        tells(SIX_PAIRS + ",p1/2/1", -20 - SIX_PAIRS.length());
        tells(SIX_PAIRS + "+1,p1/2/1", -22 - SIX_PAIRS.length());
    }

    private static void kindsOfPairs() {
        terms("p s t f (KINDS in this order), then three numbers with / between: REACH, BEAT, OPENING");
        ClashRocks x = Due.strait("p1/2/1,s1/2/1,t1/2/1,f1/2/1");
        row("of(.., 0)", pair -> x.of(pair, 0), 0, 1, 2, 3);
        for (String letter : new String[] {"P", "S", "T", "F", "x", "1", "/", "+", "~"}) {
            tells(letter + "1/2/1", -20);
            tells("p1/2/1," + letter + "1/2/1", -27);
        }
    }

    private static void threeNumbers() {
        terms("then three numbers with / between: REACH, BEAT, OPENING");
        tells("p1/2/1", 1);
        tells("p30/24/24", 1);
        tells("p0/2/1", -21);
        tells("p31/2/1", -21);
        tells("p1/1/1", -23);
        tells("p1/0/0", -23);
        tells("p1/25/1", -23);
        tells("p1/2/0", -25);
        tells("p1/2/3", -25);
        tells("p1/24/25", -26);
        tells("p/2/1", -21);
        tells("p1//1", -23);
        tells("p1/2/", -25);
        tells("p1,2/1", -22);
        tells("p1/2,1", -24);
        tells("p1/2/1/1", -26);
        tells("p-1/2/1", -21);
    }

    private static void phase() {
        terms("perhaps + and a number (PHASE; 0)");
        ClashRocks x = Due.strait("p1/5/1,p1/5/1+0,p1/5/1+4,p1/24/1+23,p1/2/1+1");
        row("of(.., 4)", pair -> x.of(pair, 4), 0, 0, 4, 23, 1);
        tells("p1/5/1+5", -27);
        tells("p1/2/1+2", -27);
        tells("p1/24/1+24", -28);
        tells("p1/5/1+", -27);
        tells("p1/5/1+,p1/5/1", -27);
        tells("p1/5/1+-1", -27);
        tells("p1/5/1++1", -27);
        tells("p1/5/1+1+1", -28);
        tells("p1/5/1+1/1", -28);
    }

    private static void oneToFiveShips() {
        terms("then perhaps ; and 1 to 5 SHIPS with , between");
        tells("p1/2/1;", -27);
        tells("p1/2/1;,P11", -27);
        tells("p1/2/1;;P11", -27);
        tells("p1/2/1;P11", 1);
        tells("p1/2/1;P11,", -31);
        tells("p1/2/1;P11,,P11", -31);
        tells("p1/2/1;P11P11", -30);
        tells("p1/2/1;P11;P11", -30);
        tells("p1/2/1,P11", -27);
        tells("p1/2/1;" + FIVE_SHIPS, 1);
        tells("p1/2/1;" + FIVE_SHIPS + ",", -27 - FIVE_SHIPS.length());
        tells("p1/2/1;" + FIVE_SHIPS + ",P11", -27 - FIVE_SHIPS.length());
        tells(SIX_PAIRS + ";" + FIVE_SHIPS, 6);
        for (int ships = 1; ships <= 5; ships++) {
            ClashRocks x = Due.strait("p1/2/1;" + FIVE_SHIPS.substring(0, 4 * ships - 1));
            due.is("count(1)", x.count(1), ships);
        }
    }

    private static void kindsOfShips() {
        terms("P T B L (KINDS in this order)");
        ClashRocks x = Due.strait("p1/2/1;P11,T11,B11,L11");
        row("told(.., 0)", ship -> x.told(ship, 0), 0, 1, 2, 3);
        for (String letter : new String[] {"p", "t", "b", "l", "x", "1", "+"}) {
            tells("p1/2/1;" + letter + "11", -27);
            tells("p1/2/1;P11," + letter + "11", -31);
        }
    }

    private static void lengthAndSpeed() {
        terms("a digit (LENGTH 1 .. 9), a digit (SPEED 1 .. 5)");
        ClashRocks x = Due.strait("p1/2/1;P11,P95");
        row("told(.., 1)", ship -> x.told(ship, 1), 1, 9);
        row("told(.., 2)", ship -> x.told(ship, 2), 1, 5);
        tells("p1/2/1;P01", -28);
        tells("p1/2/1;P/1", -28);
        tells("p1/2/1;P:1", -28);
        tells("p1/2/1;P", -28);
        tells("p1/2/1;P10", -29);
        tells("p1/2/1;P16", -29);
        tells("p1/2/1;P1", -29);
        tells("p1/2/1;P1,", -29);
        tells("p1/2/1;P1/1", -29);
        tells("p1/2/1;P111", -30);
    }

    private static void inPlaceOfAll() {
        terms("in place of all PAIRS and SHIPS");
        ClashRocks x = Due.strait(SIX_PAIRS + ";" + FIVE_SHIPS);
        due.is("strait", Due.read(x, "t9/8/7+6"), 1);
        due.is("count(0)", x.count(0), 1);
        due.is("count(1), none is told", x.count(1), 0);
        row("of(0, ..)", what -> x.of(0, what), 2, 9, 8, 7, 6);
        due.is("of(1, 0)", x.of(1, 0), BAD);
        due.is("told(0, 0)", x.told(0, 0), BAD);
        due.is("the next pair", x.pair(0, 1, 2, 1), 1);
        due.is("the next ship", x.ship(0, 1, 1), 0);
    }

    private static void clockStaysNoneIsOut() {
        terms("(THE CLOCK stays, none is out)");
        ClashRocks x = Due.strait("p1/2/2,p1/2/2;P11");
        x.setOut(0);
        x.pass(1);
        idleTo(x, 9999);
        due.is("strait", Due.read(x, "p1/2/2,p1/2/2;P11"), 2);
        row("count", x::count, 2, 1, 9999, NONE, 0, 0, 0, 0);
        due.is("pass(1)", x.pass(1), NOT);
        due.is("setOut(0)", x.setOut(0), 2);
        nothingElseGoes();
    }

    private static void nothingElseGoes() {
        ClashRocks x = Due.strait("p1/2/2;P11");
        x.idle(4);
        x.image();
        x.look(5, 1);
        x.seed(6);
        x.sheet(3, 3, 7);
        due.is("strait", Due.read(x, "p1/2/2,p1/2/2"), 2);
        due.is("count(7), the looks", x.count(7), 1);
        due.is("foretell(5)", x.foretell(5), 1);
        due.is("seed(1), the draw", x.seed(1), 6);
        due.is("drop(3), a sheet", x.drop(3), 7);
        due.is("restore(), the image", x.restore(), 1);
        row("count", x::count, 1, 1, 4, NONE, 0, 0, 1, 0);
    }

    private static void nothingToBeUndone() {
        terms("a STRAIT leaves nothing to be UNDONE");
        ClashRocks x = Due.strait("p1/2/2;P11");
        x.setOut(0);
        x.idle(5);
        due.is("strait", Due.read(x, "p1/2/2;P11"), 1);
        due.is("count(6)", x.count(6), 0);
        due.is("undo()", x.undo(), NONE);
        due.is("count(2)", x.count(2), 5);
        x.idle(1);
        due.is("undo()", x.undo(), 0);
        due.is("count(2)", x.count(2), 5);
        due.is("count(3)", x.count(3), NONE);
    }

    private static void firstLetter() {
        terms("FAULTS: -20 less the place of the first letter (behind blanks) that can't stand there");
        tells("x", -20);
        tells(" x", -21);
        tells("p  x", -23);
        tells("p1/2/3,x", -25);
        tells("p1/2/1,x0/0/0;;", -27);
        tells("p1/2/1 x", -27);
        String blanks = " ".repeat(99);
        tells(blanks + "x", -119);
        tells(blanks + "p", -120);
    }

    private static void theEnd() {
        terms("(the end: how many there are)");
        tells("", -20);
        tells("p", -21);
        tells("p1", -22);
        tells("p1/", -23);
        tells("p1/2", -24);
        tells("p1/2/", -25);
        tells("p1/2/1+", -27);
        tells("p1/2/1,", -27);
        tells("p1/2/1;", -27);
        tells("p1/2/1;P", -28);
        tells("p1/2/1;P1", -29);
        tells("p1/2/1;P11,", -31);
        tells("p1/2/  ", -27);
        tells(" ".repeat(100), -120);
    }

    private static void blanks() {
        terms("blanks count for nothing, but end a number");
        tells("  p  1  /  2  /  1  +  1  ,  s  1  /  2  /  1  ;  P  1  1  ,  L  9  5  ", 2);
        tells("p1/2/1 ", 1);
        tells(" p1/2/1", 1);
        ClashRocks x = Due.strait("p 12 / 23 / 20 + 19 ; B 4 3 ");
        row("of(0, ..)", what -> x.of(0, what), 0, 12, 23, 20, 19);
        row("told(0, ..)", what -> x.told(0, what), 2, 4, 3);
    }

    private static void blanksEndANumber() {
        terms("blanks count for nothing, but end a number");
        tells("p1 2/2/1", -23);
        tells("p1/1 2/1", -23);
        tells("p1/2 2/1", -25);
        tells("p1/2/1 1", -27);
        tells("p1/24/1+1 1", -30);
    }

    private static void numbersThatMayNotBe() {
        terms("of a number that may not be its first digit");
        tells("p31/2/1", -21);
        tells("p  31/2/1", -23);
        tells("p100/2/1", -21);
        tells("p1/25/1", -23);
        tells("p1/ 100/1", -24);
        tells("p1/12/13", -26);
        tells("p1/12/ 100", -27);
        tells("p1/12/12+12", -29);
        tells("p1/12/12+ 100", -30);
        tells("p31", -21);
        tells("p31x", -21);
    }

    /** Numbers that would be within, were they counted by 8, 16, 32 or 64 bits alone. */
    private static void numbersBeyondAll() {
        terms("of a number that may not be its first digit");
        for (String number : new String[] {"258", "65538", "4294967298", "18446744073709551618", "2147483648",
            "99999999999999999999999999999999999999"}) {
            tells("p" + number + "/2/1", -21);
            tells("p1/" + number + "/1", -23);
            tells("p1/24/" + number, -26);
            tells("p1/24/1+" + number, -28);
        }
    }
}
