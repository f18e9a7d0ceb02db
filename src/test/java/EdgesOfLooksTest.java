/** The edges of looks and images: the third part of the terms, and promises 25 to 31. */
public final class EdgesOfLooksTest extends Edges {
    public static void main(String[] args) {
        lookBad();
        lookFull();
        looksOfOneSecond();
        forget();
        allFits();
        openingsLessThanBeat();
        longestBeats();
        shortestBeats();
        firstOfFits();
        fitsTold();
        fitsBad();
        fitsNone();
        foretellBad();
        foretellThreeWays();
        foretellNone();
        nextWindow();
        nextFirst();
        nextAtWorst();
        nextBad();
        nextNone();
        restoreNone();
        imageOfAllBut();
        imageOfOpenWater();
        imageStays();
        imageOfFullRows();
        due.end();
    }

    /** Looks told as pairs of a second and whether it was open. */
    private static ClashRocks seen(int... looks) {
        ClashRocks x = new ClashRocks();
        for (int i = 0; i + 1 < looks.length; i += 2) {
            x.look(looks[i], looks[i + 1]);
        }
        return x;
    }

    /** Some seconds in a row, all seen the same. */
    private static ClashRocks seenInARow(int from, int n, int isOpen) {
        ClashRocks x = new ClashRocks();
        for (int k = 0; k < n; k++) {
            x.look(from + k, isOpen);
        }
        return x;
    }

    private static void fits(ClashRocks x, int howMany, int first) {
        row("fits", x::fits, howMany, first, BAD);
    }

    private static void lookBad() {
        promise(25, "A LOOK (isOpen 0, 1): how many. BAD; FULL: 12.");
        ClashRocks x = new ClashRocks();
        badBeyond("look, its second", 0, 9999, second -> x.look(second, 1));
        badBeyond("look, whether open", 0, 1, isOpen -> x.look(0, isOpen));
        due.is("count(7)", x.count(7), 0);
        due.is("look(0, 1)", x.look(0, 1), 1);
        due.is("look(9999, 0)", x.look(9999, 0), 2);
        due.is("count(7)", x.count(7), 2);
    }

    private static void lookFull() {
        promise(25, "FULL: 12.");
        ClashRocks x = seenInARow(0, 11, 1);
        due.is("the twelfth", x.look(11, 1), 12);
        due.is("one more", x.look(12, 0), FULL);
        badBeyond("one more, its second wrong", 0, 9999, second -> x.look(second, 1));
        badBeyond("one more, open wrong", 0, 1, isOpen -> x.look(0, isOpen));
        due.is("count(7)", x.count(7), 12);
        due.is("foretell(12), as if it had not been told", x.foretell(12), 2);
    }

    private static void looksOfOneSecond() {
        terms("it was told whether it was OPEN in some seconds (0 .. 9999)");
        ClashRocks x = seen(9999, 1, 9999, 1);
        due.is("count(7), told twice", x.count(7), 2);
        fits(x, 2300, 20101);
        due.is("look(9999, 0), told otherwise", x.look(9999, 0), 3);
        fits(x, 0, NONE);
    }

    private static void forget() {
        promise(26, "All LOOKS are gone: how many there were.");
        ClashRocks x = new ClashRocks();
        due.is("forget() of none", x.forget(), 0);
        ClashRocks y = seenInARow(0, 12, 1);
        due.is("forget()", y.forget(), 12);
        due.is("forget() again", y.forget(), 0);
        due.is("count(7)", y.count(7), 0);
        fits(y, 4600, 20100);
        due.is("look(0, 0)", y.look(0, 0), 1);
        fits(y, 2300, 20101);
    }

    private static void allFits() {
        terms("FITS: BEATS (2 .. 24), OPENINGS (1 .. BEAT less 1), PHASES by which all LOOKS are so: how many");
        // The sum of BEAT and BEAT less 1, multiplied, from 2 to 24.
        fits(new ClashRocks(), 4600, 20100);
        fits(seen(0, 1), 2300, 20100);
        fits(seen(0, 0), 2300, 20101);
        // Open and then shut: by one phase of each opening of each beat.
        fits(seen(0, 1, 1, 0), 276, 20100);
        fits(seen(0, 0, 1, 1), 276, 20101);
    }

    private static void openingsLessThanBeat() {
        terms("OPENINGS (1 .. BEAT less 1)");
        // Twelve seconds all open, or all shut, are none of a beat of 12, nor of a shorter one.
        due.is("fits(1), 12 open", seenInARow(0, 12, 1).fits(1), 131200);
        due.is("fits(1), 12 shut", seenInARow(0, 12, 0).fits(1), 130101);
        due.is("fits(1), 11 open", seenInARow(0, 11, 1).fits(1), 121100);
        due.is("fits(1), 11 shut", seenInARow(0, 11, 0).fits(1), 120101);
        due.is("fits(1), 2 open", seenInARow(0, 2, 1).fits(1), 30200);
    }

    private static void longestBeats() {
        terms("BEATS (2 .. 24)");
        fits(seen(0, 1, 527, 0, 526, 1, 528, 1, 119, 0, 11, 1, 7, 1), 1, 242300);
        fits(seen(0, 0, 1, 1, 252, 1, 552, 0, 23, 1, 8, 1), 1, 242323);
        fits(seen(0, 1, 1, 0, 252, 0, 552, 1, 23, 0, 8, 0), 1, 240100);
    }

    private static void shortestBeats() {
        terms("BEATS (2 .. 24)");
        fits(seen(0, 1, 1, 0, 2, 1, 3, 0), 1, 20100);
        fits(seen(0, 0, 1, 1, 2, 0, 3, 1), 1, 20101);
    }

    private static void firstOfFits() {
        terms("the first as 10000 BEAT, 100 OPENING and PHASE");
        // Shut, open, open, shut: no beat of 2; of 3 an opening of 2, by which it is open in 1 and 2.
        due.is("fits(1)", seen(0, 0, 1, 1, 2, 1, 3, 0).fits(1), 30202);
        // A beat ahead of an opening: of 4 with 1, not of 5; an opening ahead of a phase.
        due.is("fits(1)", seen(0, 1, 1, 0, 2, 0, 3, 0).fits(1), 40100);
        due.is("fits(1)", seen(0, 0, 1, 0, 2, 0, 3, 1).fits(1), 40101);
    }

    private static void fitsTold() {
        promise(27, "FITS: how many (0), the first (1).");
        fits(new ClashRocks(), 4600, 20100);
        fits(seen(9999, 0, 9998, 1), 276, 20100);
    }

    private static void fitsBad() {
        promise(27, "BAD; NONE: there is none (1).");
        badBeyond("fits", 0, 1, new ClashRocks()::fits);
        badBeyond("fits, there is none", 0, 1, seen(5, 1, 5, 0)::fits);
    }

    private static void fitsNone() {
        promise(27, "NONE: there is none (1).");
        ClashRocks x = seen(5, 1, 5, 0);
        due.is("fits(0)", x.fits(0), 0);
        due.is("fits(1)", x.fits(1), NONE);
    }

    private static void foretellBad() {
        promise(28, "At a second (0 .. 9999) by all FITS: 1, 0, 2. BAD; NONE: there is none.");
        badBeyond("foretell", 0, 9999, new ClashRocks()::foretell);
        badBeyond("foretell, there is none", 0, 9999, seen(5, 1, 5, 0)::foretell);
        due.is("foretell(0)", seen(0, 1).foretell(0), 1);
        due.is("foretell(9999)", seen(9999, 0).foretell(9999), 0);
    }

    private static void foretellThreeWays() {
        terms("At a second by all FITS: 1 OPEN, 0 shut, 2 either.");
        due.is("without looks", new ClashRocks().foretell(0), 2);
        // A beat of 2 alone.
        ClashRocks x = seen(0, 1, 1, 0, 2, 1, 3, 0);
        due.is("foretell(9998)", x.foretell(9998), 1);
        due.is("foretell(9999)", x.foretell(9999), 0);
        // A beat of 24 with one shut second alone.
        ClashRocks y = seen(0, 0, 1, 1, 252, 1, 552, 0, 23, 1, 8, 1);
        due.is("foretell(9984)", y.foretell(9984), 0);
        due.is("foretell(9985)", y.foretell(9985), 1);
        due.is("foretell(9983)", y.foretell(9983), 1);
    }

    private static void foretellNone() {
        promise(28, "NONE: there is none.");
        ClashRocks x = seen(5, 1, 5, 0);
        due.is("foretell(5)", x.foretell(5), NONE);
        due.is("foretell(0)", x.foretell(0), NONE);
    }

    private static void nextWindow() {
        terms("NEXT: the second T to T and 59 in which a LOOK leaves the fewest FITS at worst, the first; how many then.");
        ClashRocks x = seen(0, 1);
        row("next(90, ..), 59 later", what -> x.next(90, what), 149, 1396);
        row("next(89, ..), 60 later", what -> x.next(89, what), 103, 1402);
        row("next(143, ..), 59 later", what -> x.next(143, what), 202, 1360);
        row("next(142, ..), 60 later", what -> x.next(142, what), 173, 1380);
        ClashRocks y = seen(0, 1, 1, 1, 2, 0);
        row("next(134, ..), at once", what -> y.next(134, what), 134, 127);
        row("next(30, ..), a second on", what -> x.next(30, what), 31, 1326);
        row("next(135, ..), too late for that", what -> y.next(135, what), 157, 128);
        ClashRocks late = seen(9999, 1, 9998, 0);
        row("next(9980, ..), 59 later, beyond the last look's second", what -> late.next(9980, what), 10039, 138);
        row("next(9979, ..), 60 later", what -> late.next(9979, what), 10031, 139);
    }

    private static void nextFirst() {
        terms("in which a LOOK leaves the fewest FITS at worst, the first");
        row("next(0, ..), all are alike", what -> new ClashRocks().next(0, what), 0, 2300);
        row("next(9999, ..), all are alike", what -> new ClashRocks().next(9999, what), 9999, 2300);
        // A beat of 2 alone: whatever is seen, one is left at worst.
        row("next(77, ..), one fit", what -> seen(0, 1, 1, 0, 2, 1, 3, 0).next(77, what), 77, 1);
    }

    private static void nextAtWorst() {
        terms("leaves the fewest FITS at worst");
        // Four fits are left by these: 7 with 2 and its like; a look at 5 leaves two, whatever it tells.
        ClashRocks x = seen(0, 1, 1, 1, 2, 0, 3, 0, 7, 1, 8, 1, 9, 0);
        row("next(0, ..)", what -> x.next(0, what), 5, 2);
        int worst = 0;
        for (int isOpen = 0; isOpen < 2; isOpen++) {
            ClashRocks y = seen(0, 1, 1, 1, 2, 0, 3, 0, 7, 1, 8, 1, 9, 0, 5, isOpen);
            worst = Math.max(worst, y.fits(0));
        }
        due.is("fits(0) then, at worst", worst, 2);
    }

    private static void nextBad() {
        promise(29, "NEXT from a second on: it (0), how many FITS are left at worst (1). BAD; NONE: there is none.");
        ClashRocks x = new ClashRocks();
        badBeyond("next, its second", 0, 9999, second -> x.next(second, 0));
        badBeyond("next, what", 0, 1, what -> x.next(0, what));
        ClashRocks none = seen(5, 1, 5, 0);
        badBeyond("next, its second, there is none", 0, 9999, second -> none.next(second, 0));
        badBeyond("next, what, there is none", 0, 1, what -> none.next(0, what));
    }

    private static void nextNone() {
        promise(29, "NONE: there is none.");
        row("next(0, ..)", what -> seen(5, 1, 5, 0).next(0, what), NONE, NONE);
        row("next(9999, ..)", what -> seen(5, 1, 5, 0).next(9999, what), NONE, NONE);
    }

    private static void restoreNone() {
        promise(31, "NONE: there is none.");
        ClashRocks x = Due.strait("p1/2/2;P11");
        x.idle(7);
        due.is("restore()", x.restore(), NONE);
        due.is("count(2)", x.count(2), 7);
        due.is("image()", x.image(), 1);
        due.is("restore()", x.restore(), 1);
    }

    private static void imageOfAllBut() {
        promise(30, "All but SHEETS, THE TAPE is kept as an IMAGE: 1.");
        ClashRocks x = Due.strait("p1/24/24+3;P15");
        x.sheet(0, 2, 1);
        x.item(0, 2, 0, 4);
        x.type('p');
        due.is("image()", x.image(), 1);
        x.item(0, 2, 0, 5);
        x.sheet(1, 1, 9);
        x.type('3');
        x.type('1');
        due.is("restore()", x.restore(), 1);
        due.is("judged, by the pace that came later", x.judged(0, 0, 0, 2, 0, 2), 2);
        due.is("drop(1), it came later", x.drop(1), 9);
        due.is("type, behind what came later", x.type('/'), 4);
        due.is("strait(): p31/", x.strait(), -21);
        x.drop(0);
        due.is("restore()", x.restore(), 1);
        due.is("drop(0), it is gone", x.drop(0), NULL);
        due.is("strait(), the tape is empty", x.strait(), -20);
    }

    private static void imageOfOpenWater() {
        promise(31, "All is as it was then: 1.");
        ClashRocks x = new ClashRocks();
        x.image();
        Due.read(x, "p1/24/24+3,s1/2/2;P15,L11");
        x.setOut(1);
        x.pass(1);
        x.look(5, 1);
        x.seed(9);
        due.is("restore()", x.restore(), 1);
        row("count", x::count, 0, 0, 0, NONE, 0, 0, 0, 0);
        due.is("of(0, 0)", x.of(0, 0), BAD);
        due.is("told(0, 0)", x.told(0, 0), BAD);
        due.is("pass(1)", x.pass(1), NOT);
        due.is("seed(9)", x.seed(9), 1);
        fits(x, 4600, 20100);
        due.is("a new pair", x.pair(0, 1, 24, 1), 0);
        due.is("of(0, 4)", x.of(0, 4), 0);
    }

    private static void imageStays() {
        promise(31, "All is as it was then: 1.");
        ClashRocks x = Due.strait("p1/24/24+3;P11");
        x.idle(5);
        x.image();
        for (int round = 0; round < 3; round++) {
            x.idle(8);
            x.phase(0, 9);
            x.setOut(0);
            x.pass(1);
            x.look(round, 1);
            due.is("restore()", x.restore(), 1);
            row("count", x::count, 1, 1, 5, NONE, 0, 0, 1, 0);
            due.is("of(0, 4)", x.of(0, 4), 3);
            due.is("undo()", x.undo(), 0);
            due.is("count(2)", x.count(2), 0);
        }
        due.is("image(), in place of the first", x.image(), 1);
        x.idle(8);
        due.is("restore()", x.restore(), 1);
        row("count", x::count, 1, 1, 0, NONE, 0, 0, 0, 0);
    }

    private static void imageOfFullRows() {
        promise(31, "All is as it was then: 1.");
        ClashRocks x = Due.strait("p1/2/2,s2/3/2+1,t3/4/2+2,f4/5/2+3,p5/6/2+4,s6/7/2+5;P12,T23,B34,L45,P91");
        for (int i = 0; i < 9; i++) {
            x.idle(10 + i);
        }
        for (int i = 0; i < 12; i++) {
            x.look(24 * i, i == 11 ? 0 : 1);
        }
        x.image();
        Due.read(x, "t9/9/9+8");
        x.idle(1);
        x.forget();
        for (int i = 0; i < 12; i++) {
            x.look(25 * i, i % 2);
        }
        fits(x, 38, 20101);
        due.is("restore()", x.restore(), 1);
        row("count", x::count, 6, 5, 126, NONE, 0, 0, 8, 12);
        fits(x, 17, 131208);
        for (int pair = 0; pair < 6; pair++) {
            int k = pair;
            row("of(" + pair + ", ..)", what -> x.of(k, what), k % 4, k + 1, k + 2, 2, k);
        }
        row("told(.., 0)", ship -> x.told(ship, 0), 0, 1, 2, 3, 0);
        row("told(.., 1)", ship -> x.told(ship, 1), 1, 2, 3, 4, 9);
        row("told(.., 2)", ship -> x.told(ship, 2), 2, 3, 4, 5, 1);
        due.is("look, still full", x.look(0, 0), FULL);
        due.is("foretell(264), the twelfth", x.foretell(264), 0);
        row("undo", v -> x.undo(), 7, 6, 5, 4, 3, 2, 1, 0, NONE);
        due.is("count(2)", x.count(2), 10);
    }
}
