import java.util.function.IntBinaryOperator;

/** The edges of what comes: the second part of the terms, and promises 17 to 24. */
public final class EdgesOfPassagesTest extends Edges {
    /** Clean from 45 on, and 552 seconds later each time, alone; it takes 4 seconds. */
    private static final String RARE = "p1/23/1,p1/24/1;P11";

    public static void main(String[] args) {
        shipsAndSeconds();
        tillOneCrushes();
        soonestBegins();
        soonestIsSoonest();
        soonestBeginsLast();
        soonestFirstRow();
        soonestOfTheLongest();
        soonestWhat();
        soonestNone();
        fullWhat();
        fullSecond();
        noPairs();
        fogLeftOverByBeat();
        fogOfABeatOfTwo();
        fogEachPairApart();
        fractions();
        fogWhat();
        sureWindow();
        sureFirst();
        stonesBehindZero();
        stonesLessThanBeat();
        stonesNone();
        stonesWhat();
        convoyWithoutReach();
        convoyMost();
        convoyLeastSet();
        convoyOpenInEachSecond();
        convoySets();
        rudderWindow();
        rudderCrushedNowhere();
        rudderAll();
        rudderN();
        worthWindow();
        worthOfNothing();
        worthBad();
        due.end();
    }

    private static void shipOrSecond(String call, IntBinaryOperator asked) {
        badBeyond(call + ", its ship", 0, 1, ship -> asked.applyAsInt(ship, 0));
        badBeyond(call + ", its second", 0, 9999, second -> asked.applyAsInt(0, second));
        due.is(call + " from 0", asked.applyAsInt(0, 0) == BAD ? 1 : 0, 0);
        due.is(call + " from 9999", asked.applyAsInt(1, 9999) == BAD ? 1 : 0, 0);
    }

    private static void shipsAndSeconds() {
        ClashRocks x = Due.strait("p1/2/1;P11,P22");
        promise(17, "BAD; NONE: there is none.");
        shipOrSecond("soonest", (ship, second) -> x.soonest(ship, second, -2));
        promise(18, "BAD.");
        shipOrSecond("full", (ship, second) -> x.full(ship, second, 1));
        promise(19, "BAD.");
        shipOrSecond("fog", (ship, second) -> x.fog(ship, second, 0));
        promise(20, "SURE. BAD.");
        shipOrSecond("sure", x::sure);
        promise(21, "BAD; NONE: it can't be.");
        shipOrSecond("stones", (ship, second) -> x.stones(ship, second, -1));
        promise(23, "RUDDER, n 0 .. 999: a set. BAD.");
        shipOrSecond("rudder", (ship, second) -> x.rudder(ship, second, 0));
    }

    private static void full(ClashRocks x, int second, int... wants) {
        row("full(0, " + second + ", ..)", what -> x.full(0, second, what), wants);
    }

    private static void tillOneCrushes() {
        terms("PAIRS are PASSED one behind the other, till one CRUSHES it.");
        // Between in 1 2, 4 5, 7 8: scraped, crushed in 5's place or 4's, and the third would scrape.
        ClashRocks x = Due.strait("p1/24/1+23,p1/24/1+19,p1/24/1+17;P21");
        full(x, 0, 1, 1, 4);
        x.phase(1, 20);
        full(x, 0, NONE, 7, 9);
        x.phase(0, 22);
        full(x, 0, 0, 0, 1);
    }

    private static void soonestBegins() {
        terms("of all CLEAN PASSAGES that begin in T to T and 99");
        ClashRocks x = Due.strait(RARE);
        due.is("soonest(0, 45, -1), at once", x.soonest(0, 45, -1), 45);
        due.is("soonest(0, 46, -1)", x.soonest(0, 46, -1), NONE);
        due.is("soonest(0, 497, -1), 100 later", x.soonest(0, 497, -1), NONE);
        due.is("soonest(0, 498, -1), 99 later", x.soonest(0, 498, -1), 597);
        due.is("soonest(0, 498, -2)", x.soonest(0, 498, -2), 601);
        due.is("soonest(0, 597, -1)", x.soonest(0, 597, -1), 597);
        // 45 and 18 times 552 is 9981.
        due.is("soonest(0, 9981, -2)", x.soonest(0, 9981, -2), 9985);
        due.is("soonest(0, 9982, -2)", x.soonest(0, 9982, -2), NONE);
        // The clock ends at 9999, what is told of a passage does not: 10008 is 417 times 24.
        ClashRocks late = Due.strait("p1/24/1;P11");
        due.is("soonest(0, 9999, -1)", late.soonest(0, 9999, -1), 10007);
        due.is("soonest(0, 9999, -2)", late.soonest(0, 9999, -2), 10009);
    }

    private static void soonestIsSoonest() {
        terms("by any PACES, those that are behind the last PAIR soonest");
        // Open in 5 of 24: by 1 from 0 on, by 2 from 2 on; each is behind it at 6.
        ClashRocks x = Due.strait("p5/24/1+19;P12");
        due.is("soonest(0, 0, -2)", x.soonest(0, 0, -2), 6);
        due.is("soonest(0, 3, -2), too late for that", x.soonest(0, 3, -2), 30);
        // Between the first in 24 25 by 2; the second is open from 32 to 35: by 2 it would be there at 29, by 1 at 32.
        ClashRocks y = Due.strait("p1/24/2,p6/24/4+16;P42");
        row("soonest(0, 0, -2 ..)", what -> y.soonest(0, 0, what - 2), 36, 23, 2, 1, BAD);
    }

    private static void soonestBeginsLast() {
        terms("of like ones those that begin last");
        ClashRocks x = Due.strait("p5/24/1+19;P12");
        due.is("soonest(0, 0, -1)", x.soonest(0, 0, -1), 2);
        due.is("soonest(0, 0, 0)", x.soonest(0, 0, 0), 2);
        due.is("soonest(0, 2, -1)", x.soonest(0, 2, -1), 2);
        ClashRocks five = Due.strait("p5/24/1+19;P15");
        due.is("soonest(0, 0, -1)", five.soonest(0, 0, -1), 4);
        due.is("soonest(0, 0, 0)", five.soonest(0, 0, 0), 5);
    }

    private static void soonestFirstRow() {
        terms("then the first as a row of PACES.");
        // Paces 3 and 4 both take 2 seconds for a reach of 5, and 1 for a length of 1.
        ClashRocks x = Due.strait("p5/24/1;P14");
        due.is("soonest(0, 0, -1)", x.soonest(0, 0, -1), 22);
        due.is("soonest(0, 0, 0)", x.soonest(0, 0, 0), 3);
        // By 3 or 4 it takes 2 seconds for each reach and 2 between, from 642 on, and not for 552 seconds ahead of it.
        ClashRocks z = Due.strait("p5/23/2,p5/24/2;P54");
        row("soonest(0, 545, -2 ..)", what -> z.soonest(0, 545, what - 2), 650, 642, 3, 3, BAD);
        // In 24, then 25 on; at 29 by 1 and 2 or by 2 and 1.
        ClashRocks y = Due.strait("p1/24/1,p2/2/2,p2/24/1+19;P12");
        row("soonest(0, 0, -2 ..)", what -> y.soonest(0, 0, what - 2), 30, 23, 1, 1, 2, BAD);
        // At 28 by 2 and 2 alone, at 30 by 1 and 1 alone.
        y.phase(2, 20);
        row("soonest(0, 0, -2 ..)", what -> y.soonest(0, 0, what - 2), 29, 23, 1, 2, 2, BAD);
        y.phase(2, 18);
        row("soonest(0, 0, -2 ..)", what -> y.soonest(0, 0, what - 2), 31, 23, 1, 1, 1, BAD);
    }

    /** Six pairs, all with the longest reach, and the longest ship; it begins as late as it may. */
    private static void soonestOfTheLongest() {
        terms("of all CLEAN PASSAGES that begin in T to T and 99, by any PACES");
        // By 1, 41 seconds each: it comes to the fifth at 391, 17 times 23, and to the sixth at 432, 18 times 24.
        ClashRocks x = Due.strait("p30/2/2,p30/2/2,p30/2/2,p30/2/2,p30/23/11,p30/24/11;L91");
        row("soonest(0, 98, -2 ..)", what -> x.soonest(0, 98, what - 2), 443, 197, 1, 1, 1, 1, 1, 1, BAD);
        due.is("soonest(0, 97, -2)", x.soonest(0, 97, -2), NONE);
        due.is("soonest(0, 198, -2)", x.soonest(0, 198, -2), NONE);
        // By 2, 21 seconds each: it comes to the first at 483, 21 times 23, to the second at 504, 21 times 24. To the
        // sixth it comes at 588, or 20 later for each pair ahead of it that it goes to by 1: 648 is 27 times 24.
        ClashRocks y = Due.strait("p30/23/6,p30/24/6,p30/2/2,p30/2/2,p30/2/2,p30/24/6;L92");
        row("soonest(0, 369, -2 ..)", what -> y.soonest(0, 369, what - 2), 654, 468, 2, 2, 1, 1, 1, 2, BAD);
        due.is("soonest(0, 368, -2)", y.soonest(0, 368, -2), NONE);
        // 628 and 20 are 27 times 24: two of three by 1, the first of such rows.
        y.phase(5, 20);
        row("soonest(0, 369, -2 ..)", what -> y.soonest(0, 369, what - 2), 634, 468, 2, 2, 1, 1, 2, 2, BAD);
    }

    private static void soonestWhat() {
        promise(17, "SOONEST: when it is behind the last PAIR (-2), when it begins (-1), the PACE for a PAIR. BAD");
        ClashRocks x = Due.strait("p1/2/2,p1/2/2;P11");
        badBeyond("soonest, what", -2, 1, what -> x.soonest(0, 7, what));
        row("soonest(0, 7, -2 ..)", what -> x.soonest(0, 7, what - 2), 11, 7, 1, 1, BAD);
    }

    private static void soonestNone() {
        promise(17, "BAD; NONE: there is none.");
        ClashRocks x = Due.strait("p1/2/1;P21");
        row("soonest(0, 0, -2 ..)", what -> x.soonest(0, 0, what - 2), NONE, NONE, NONE, BAD);
        due.is("soonest(0, 0, -3), BAD ahead of NONE", x.soonest(0, 0, -3), BAD);
        due.is("soonest(1, 0, -2), BAD ahead of NONE", x.soonest(1, 0, -2), BAD);
        due.is("soonest(0, 10000, -2), BAD ahead of NONE", x.soonest(0, 10000, -2), BAD);
        // Scraped at best is not clean.
        ClashRocks scraped = Due.strait("p1/24/2;P31");
        due.is("soonest(0, 0, -2)", scraped.soonest(0, 0, -2), NONE);
    }

    private static void fullWhat() {
        promise(18, "BAD.");
        ClashRocks x = Due.strait("p1/2/2;P11");
        badBeyond("full, what", 0, 2, what -> x.full(0, 0, what));
        promise(18, "the PAIR that CRUSHES it (NONE: none does; 0)");
        due.is("full(0, 0, 0)", x.full(0, 0, 0), NONE);
        ClashRocks y = Due.strait("p1/24/1;P31,P11");
        due.is("full(0, 0, 0)", y.full(0, 0, 0), 0);
        due.is("full(1, 0, 0), scraped", y.full(1, 0, 0), NONE);
        // Scraped at all six: a set of 63.
        ClashRocks z = Due.strait("p1/2/1,p1/2/1,p1/2/1,p1/2/1,p1/2/1,p1/2/1;P11");
        full(z, 0, NONE, 63, 12);
        full(z, 1, NONE, 0, 13);
    }

    private static void fullSecond() {
        promise(18, "the second behind the last PAIR, or that in which it was first not OPEN where it was CRUSHED (2)");
        ClashRocks x = Due.strait("p30/2/2,p30/2/2,p30/2/2,p30/2/2,p30/2/2,p30/2/2;L91");
        full(x, 9999, NONE, 0, 9999 + 6 * 41);
        ClashRocks y = Due.strait("p30/2/2,p30/24/10;L91");
        // It comes at 9999 and 71 more, which is 14 left over by 24.
        full(y, 9999, 1, 0, 10070);
        full(y, 9998, 1, 0, 10069);
        // 10080 is 0 left over by 24: from 10009 on, ten of eleven are open.
        ClashRocks z = Due.strait("p30/24/10+9;L91");
        full(z, 9969, NONE, 1, 10010);
        full(z, 9970, 0, 0, 10009);
    }

    private static void noPairs() {
        terms("FULL ONE: a PASSAGE by HIGH at all.");
        ClashRocks x = new ClashRocks();
        x.ship(0, 9, 5);
        full(x, 9999, NONE, 0, 9999);
        row("soonest(0, 9999, -2 ..)", what -> x.soonest(0, 9999, what - 2), 9999, 9999, BAD);
        row("fog(0, 9999, ..)", what -> x.fog(0, 9999, what), 1, 1);
        due.is("sure(0, 9999)", x.sure(0, 9999), 9999);
        due.is("stones(0, 9999, -1)", x.stones(0, 9999, -1), 0);
        due.is("rudder(0, 9999, 999)", x.rudder(0, 9999, 999), 0);
        due.is("lots(0, 99)", x.lots(0, 99), 99);
        due.is("worth(0, 0)", x.worth(0, 0), BAD);
        due.is("convoy(0, 0, 1)", x.convoy(0, 0, 1), BAD);
    }

    private static void fog(ClashRocks x, int second, int upper, int lower) {
        row("fog(0, " + second + ", ..)", what -> x.fog(0, second, what), upper, lower);
    }

    private static void fogLeftOverByBeat() {
        terms("FOG: each PHASE is 1 less or 1 more (left over by BEAT) once of four each, else as told, each PAIR apart");
        // One second between, one behind the begin, and open if that and the phase are 24.
        ClashRocks x = Due.strait("p1/24/1;P11");
        fog(x, 23, 1, 2);
        fog(x, 0, 1, 4);
        fog(x, 22, 1, 4);
        fog(x, 1, 0, 1);
        fog(x, 21, 0, 1);
        x.phase(0, 23);
        fog(x, 0, 1, 2);
        fog(x, 23, 1, 4);
        fog(x, 1, 1, 4);
        fog(x, 22, 0, 1);
        fog(x, 2, 0, 1);
        due.is("of(0, 4), as it was", x.of(0, 4), 23);
    }

    private static void fogOfABeatOfTwo() {
        terms("1 less or 1 more (left over by BEAT)");
        // Of a beat of 2, 1 less and 1 more are the same.
        ClashRocks x = Due.strait("p1/2/1;P11");
        fog(x, 0, 1, 2);
        fog(x, 1, 1, 2);
    }

    private static void fogEachPairApart() {
        terms("once of four each, else as told, each PAIR apart: how likely a FULL ONE from T is CLEAN.");
        // It comes at 24, 26, 28 and so on, open there and a second behind: by three of four phases.
        ClashRocks x = Due.strait("p1/24/2,p1/24/2+22,p1/24/2+20,p1/24/2+18,p1/24/2+16,p1/24/2+14;P11");
        fog(x, 23, 729, 4096);
        ClashRocks y = Due.strait("p1/24/1,p1/24/1+22,p1/24/1+20,p1/24/1+18,p1/24/1+16,p1/24/1+15;P11");
        fog(y, 23, 1, 128);
        y.phase(5, 16);
        fog(y, 23, 0, 1);
    }

    private static void fractions() {
        terms("Fractions are in lowest terms, told by upper number (0), lower number (1), the lower one above 0 (0 is 0 of 1).");
        ClashRocks x = Due.strait("p1/24/1,p1/24/2+22;P11");
        // One half, with three quarters, a quarter, nothing.
        fog(x, 23, 3, 8);
        x.phase(1, 23);
        fog(x, 23, 3, 8);
        x.phase(1, 0);
        fog(x, 23, 1, 8);
        x.phase(1, 1);
        fog(x, 23, 0, 1);
        // In the midst of three open seconds of both.
        ClashRocks y = Due.strait("p1/24/3+23,p1/24/3+21;P11");
        fog(y, 25, 1, 1);
        fog(y, 24, 9, 16);
        ClashRocks z = Due.strait("p1/24/1,p1/24/1+22;P11");
        fog(z, 23, 1, 4);
    }

    private static void fogWhat() {
        promise(19, "FOG: upper (0), lower number (1). BAD.");
        ClashRocks x = Due.strait("p1/2/2;P11");
        badBeyond("fog, what", 0, 1, what -> x.fog(0, 0, what));
    }

    private static void sureWindow() {
        terms("SURE: the second T to T and 59 at which that is most, the first.");
        // At 597 it is a quarter; at 573, a second off by the first pair, an eighth.
        ClashRocks x = Due.strait(RARE);
        due.is("sure(0, 538), 59 later", x.sure(0, 538), 597);
        due.is("sure(0, 537), 60 later", x.sure(0, 537), 573);
        due.is("sure(0, 597), at once", x.sure(0, 597), 597);
        fog(x, 597, 1, 4);
        fog(x, 573, 1, 8);
        due.is("sure(0, 9922)", x.sure(0, 9922), 9981);
        // 10008 is 417 times 24.
        due.is("sure(0, 9999), beyond the clock's end", Due.strait("p1/24/1;P11").sure(0, 9999), 10007);
    }

    private static void sureFirst() {
        terms("SURE: the second T to T and 59 at which that is most, the first.");
        ClashRocks x = Due.strait("p1/24/1;P11");
        due.is("sure(0, 0), also at 47", x.sure(0, 0), 23);
        due.is("sure(0, 24), also at 71", x.sure(0, 24), 47);
        ClashRocks always = Due.strait("p1/2/2;P11");
        due.is("sure(0, 17), always", always.sure(0, 17), 17);
        ClashRocks never = Due.strait("p1/2/1;P31");
        due.is("sure(0, 17), never", never.sure(0, 17), 17);
        due.is("sure(0, 9999), never", never.sure(0, 9999), 9999);
    }

    private static void stonesBehindZero() {
        terms("each that is thrown at a PAIR makes its PHASE 1 less (BEAT less 1 behind 0)");
        // One second between, one behind the begin, and open if that and the phase are 24.
        ClashRocks x = Due.strait("p1/24/1;P11");
        due.is("stones(0, 23, -1)", x.stones(0, 23, -1), 0);
        due.is("stones(0, 0, -1), 23 behind 0", x.stones(0, 0, -1), 1);
        due.is("stones(0, 1, -1), 22", x.stones(0, 1, -1), 2);
        x.phase(0, 1);
        due.is("stones(0, 0, -1), 23 behind 1 and 0", x.stones(0, 0, -1), 2);
        due.is("stones(0, 23, -1), 0", x.stones(0, 23, -1), 1);
        due.is("of(0, 4), nothing was thrown", x.of(0, 4), 1);
    }

    private static void stonesLessThanBeat() {
        terms("the fewest (of each PAIR less than BEAT) by which a FULL ONE from T is CLEAN; how many are thrown at a PAIR");
        ClashRocks x = Due.strait("p1/24/1,p1/2/1,t1/24/1,p1/24/24;P11");
        // From 22 on it comes at 23, 25, 27 and 29: phase 1 is 23 less; phase 1 is 1 less; 12 less than 15 is 9, 3 less.
        row("stones(0, 22, -1 ..)", pair -> x.stones(0, 22, pair - 1), 27, 23, 1, 3, 0, BAD);
        // It comes at 1, 3, 5 and so on.
        ClashRocks six = Due.strait("p1/24/1,p1/24/1,p1/24/1,p1/24/1,p1/24/1,p1/24/1;P11");
        row("stones(0, 0, -1 ..)", pair -> six.stones(0, 0, pair - 1), 36, 1, 3, 5, 7, 9, 11, BAD);
        ClashRocks two = Due.strait("p1/2/1;P11");
        due.is("stones(0, 0, 0)", two.stones(0, 0, 0), 1);
        due.is("stones(0, 1, 0)", two.stones(0, 1, 0), 0);
    }

    private static void stonesNone() {
        terms("none, if it can't be.");
        ClashRocks x = Due.strait("p1/2/2,p1/24/1;P21");
        row("stones(0, 0, -1 ..)", pair -> x.stones(0, 0, pair - 1), NONE, NONE, NONE, BAD);
        // Scraped is not clean.
        ClashRocks y = Due.strait("p1/24/2;P31");
        due.is("stones(0, 0, -1)", y.stones(0, 0, -1), NONE);
        // Stiff and never shut, but in second 0, which no ship is between in.
        ClashRocks stiff = Due.strait("f1/2/2;P11");
        due.is("stones(0, 0, -1)", stiff.stones(0, 0, -1), 0);
    }

    private static void stonesWhat() {
        promise(21, "STONES: how many (-1), at a PAIR. BAD; NONE: it can't be.");
        ClashRocks x = Due.strait("p1/2/2,p1/24/1;P21,P11");
        badBeyond("stones, at a pair", -1, 1, pair -> x.stones(1, 0, pair));
        badBeyond("stones, at a pair, BAD ahead of NONE", -1, 1, pair -> x.stones(0, 0, pair));
        badBeyond("stones, its ship, BAD ahead of NONE", 0, 1, ship -> x.stones(ship, 0, -1));
    }

    private static void convoyWithoutReach() {
        terms("CONVOY: of a set of SHIPS that lie ahead of a PAIR (its REACH is behind them)");
        // Open in 0 1 2 of 24.
        ClashRocks x = Due.strait("p30/24/3;P11,P11,P11,P11");
        due.is("convoy(0, 0, 15)", x.convoy(0, 0, 15), 7);
        due.is("convoy(0, 2, 15)", x.convoy(0, 2, 15), 1);
        due.is("convoy(0, 3, 15)", x.convoy(0, 3, 15), 0);
        due.is("convoy(0, 23, 15)", x.convoy(0, 23, 15), 0);
    }

    private static void convoyMost() {
        terms("the most that can pass one behind the other from T on by HIGH");
        // By HIGH they take 5, 1, 2, 3 and 6 seconds.
        ClashRocks x = Due.strait("p1/24/6,p1/24/17,p1/24/16;P51,P55,T42,B62,L95");
        due.is("convoy(0, 0, 31), 1 2 3", x.convoy(0, 0, 31), 2 + 4 + 8);
        due.is("convoy(0, 0, 17), one of 5, one of 6", x.convoy(0, 0, 17), 1);
        due.is("convoy(0, 1, 31), 5 seconds", x.convoy(0, 1, 31), 2 + 4);
        due.is("convoy(1, 0, 31), all in 17 seconds", x.convoy(1, 0, 31), 31);
        due.is("convoy(2, 0, 31), 16 seconds: 5 1 2 3", x.convoy(2, 0, 31), 15);
    }

    private static void convoyLeastSet() {
        terms("of like ones the least set.");
        ClashRocks x = Due.strait("p1/24/2;P11,P11,P11,P11,P11");
        due.is("convoy(0, 0, 31)", x.convoy(0, 0, 31), 3);
        due.is("convoy(0, 0, 28)", x.convoy(0, 0, 28), 12);
        due.is("convoy(0, 1, 24)", x.convoy(0, 1, 24), 8);
        due.is("convoy(0, 0, 17)", x.convoy(0, 0, 17), 17);
    }

    private static void convoyOpenInEachSecond() {
        terms("as long as it is OPEN in each second");
        ClashRocks x = Due.strait("p1/2/1,p1/2/2,s1/24/23;P11,P91,L91,L91,L91");
        due.is("convoy(0, 0, 1)", x.convoy(0, 0, 1), 1);
        due.is("convoy(0, 0, 31), shut in 1", x.convoy(0, 0, 31), 1);
        due.is("convoy(0, 1, 31), shut at once", x.convoy(0, 1, 31), 0);
        due.is("convoy(1, 9999, 31), never shut", x.convoy(1, 9999, 31), 31);
        // Open for 46 seconds: 1 9 11 11 11 are 43; from 4 on there are 42.
        due.is("convoy(2, 3, 31)", x.convoy(2, 3, 31), 31);
        due.is("convoy(2, 4, 31)", x.convoy(2, 4, 31), 15);
        // Five times 11 seconds are the longest that there is.
        ClashRocks longest = Due.strait("s1/24/24,s1/24/23;L91,L91,L91,L91,L91");
        due.is("convoy(0, 9999, 31), 55 seconds", longest.convoy(0, 9999, 31), 31);
        due.is("convoy(1, 0, 31), 46 seconds", longest.convoy(1, 0, 31), 15);
        // Scraped is not passed: of 9 seconds the last is shut.
        due.is("convoy(2, 37, 2)", x.convoy(2, 37, 2), 2);
        due.is("convoy(2, 38, 2)", x.convoy(2, 38, 2), 0);
    }

    private static void convoySets() {
        promise(22, "CONVOY: the set. BAD: also SHIPS that there are not.");
        ClashRocks x = Due.strait("p1/2/2,p1/2/2;P11,P11");
        badBeyond("convoy, its pair", 0, 1, pair -> x.convoy(pair, 0, 1));
        badBeyond("convoy, its second", 0, 9999, second -> x.convoy(0, second, 1));
        badBeyond("convoy, its set", 0, 3, set -> x.convoy(0, 0, set));
        due.is("convoy(0, 0, 5), one of them is not", x.convoy(0, 0, 5), BAD);
        row("convoy(1, 9999, ..)", set -> x.convoy(1, 9999, set), 0, 1, 2, 3, BAD);
        ClashRocks noShips = Due.strait("p1/2/2");
        row("convoy without ships", set -> noShips.convoy(0, 0, set), 0, BAD);
        ClashRocks five = Due.strait("p1/2/2;P11,P11,P11,P11,P11");
        due.is("convoy(0, 0, 31)", five.convoy(0, 0, 31), 31);
        due.is("convoy(0, 0, 32)", five.convoy(0, 0, 32), BAD);
    }

    private static void rudderWindow() {
        terms("in a FULL ONE that begins in T to T and n");
        // Shut in 23 of 24 alone: scraped from 22 and 46 on.
        ClashRocks x = Due.strait("p1/24/23;P11");
        due.is("rudder(0, 0, 21)", x.rudder(0, 0, 21), 0);
        due.is("rudder(0, 0, 22)", x.rudder(0, 0, 22), 1);
        due.is("rudder(0, 22, 0)", x.rudder(0, 22, 0), 1);
        due.is("rudder(0, 23, 0)", x.rudder(0, 23, 0), 0);
        due.is("rudder(0, 23, 22)", x.rudder(0, 23, 22), 0);
        due.is("rudder(0, 23, 23)", x.rudder(0, 23, 23), 1);
        // 10007 is 23 left over by 24.
        due.is("rudder(0, 9999, 6)", x.rudder(0, 9999, 6), 0);
        due.is("rudder(0, 9999, 7), beyond the clock's end", x.rudder(0, 9999, 7), 1);
    }

    private static void rudderCrushedNowhere() {
        terms("and is CRUSHED nowhere");
        // From 0 on: scraped in 2, then crushed in 4; or through in 4 5.
        ClashRocks x = Due.strait("p1/24/1+23,p1/24/2;P21");
        due.is("full(0, 0, 1)", x.full(0, 0, 1), 1);
        due.is("rudder(0, 0, 0)", x.rudder(0, 0, 0), 0);
        x.phase(1, 20);
        due.is("rudder(0, 0, 0)", x.rudder(0, 0, 0), 1);
    }

    private static void rudderAll() {
        terms("(all that it was SCRAPED at)");
        // From 0 on scraped at all, from 1 on at none; from 0 or 2 on at the first, or the others.
        ClashRocks x = Due.strait("p1/2/1,p1/2/1,p1/2/1,p1/2/1,p1/2/1,p1/2/1;P11");
        due.is("rudder(0, 0, 0)", x.rudder(0, 0, 0), 63);
        due.is("rudder(0, 1, 0)", x.rudder(0, 1, 0), 0);
        ClashRocks y = Due.strait("p1/24/23+22,p1/24/23+17;P11");
        // The first is shut in 1, the second in 6, to which it comes from 3 on.
        due.is("rudder(0, 0, 0)", y.rudder(0, 0, 0), 1);
        due.is("rudder(0, 1, 1)", y.rudder(0, 1, 1), 0);
        due.is("rudder(0, 3, 0)", y.rudder(0, 3, 0), 2);
        due.is("rudder(0, 0, 3)", y.rudder(0, 0, 3), 3);
    }

    private static void rudderN() {
        promise(23, "RUDDER, n 0 .. 999: a set. BAD.");
        // Scraped at all three, and crushed nowhere, from 1724 on alone, in 10488 seconds.
        ClashRocks x = Due.strait("p1/23/1,p1/24/1,p1/19/1+17;P21");
        badBeyond("rudder, n", 0, 999, n -> x.rudder(0, 0, n));
        due.is("rudder(0, 725, 999)", x.rudder(0, 725, 999), 7);
        due.is("rudder(0, 724, 999)", x.rudder(0, 724, 999), 0);
        due.is("rudder(0, 725, 998)", x.rudder(0, 725, 998), 0);
        due.is("rudder(0, 1724, 0)", x.rudder(0, 1724, 0), 7);
        due.is("rudder(0, 1725, 999)", x.rudder(0, 1725, 999), 0);
    }

    private static void worthWindow() {
        terms("how many more of seconds 0 to 59 there are from which a FULL ONE is CLEAN, if that PAIR is never shut.");
        // The second is never clean; the first from 11, 35, 59 on, or from 12, 36, 60 on, or from 0, 24, 48 on.
        ClashRocks x = Due.strait("p1/24/2+12,p1/2/1;P21");
        due.is("worth(0, 1), 11 35 59", x.worth(0, 1), 3);
        x.phase(0, 11);
        due.is("worth(0, 1), 12 36, not 60", x.worth(0, 1), 2);
        x.phase(0, 23);
        due.is("worth(0, 1), 0 24 48", x.worth(0, 1), 3);
        due.is("worth(0, 0), it never is", x.worth(0, 0), 0);
        due.is("of(1, 3), as it was", x.of(1, 3), 1);
        ClashRocks all = Due.strait("p1/2/1;P21");
        due.is("worth(0, 0), all", all.worth(0, 0), 60);
        ClashRocks six = Due.strait("p1/2/2,p1/2/2,p1/2/2,p1/2/2,p1/2/2,p1/2/1;P21");
        row("worth of six", pair -> six.worth(0, pair), 0, 0, 0, 0, 0, 60, BAD);
    }

    private static void worthOfNothing() {
        terms("WORTH of a PAIR to a SHIP: how many more");
        // Never shut already; or clean from 30 of 60 seconds on before.
        due.is("worth(0, 0)", Due.strait("p1/2/2;P91").worth(0, 0), 0);
        due.is("worth(0, 0)", Due.strait("p1/2/1;P11").worth(0, 0), 30);
        // Both are shut at once, so one of them alone is worth nothing.
        ClashRocks x = Due.strait("p1/2/1,p1/2/1;P11");
        due.is("worth(0, 0)", x.worth(0, 0), 0);
        due.is("worth(0, 1)", x.worth(0, 1), 0);
    }

    private static void worthBad() {
        promise(24, "WORTH. BAD.");
        ClashRocks x = Due.strait("p1/2/1,p1/2/1;P11,P11");
        badBeyond("worth, its ship", 0, 1, ship -> x.worth(ship, 0));
        badBeyond("worth, its pair", 0, 1, pair -> x.worth(0, pair));
    }
}
