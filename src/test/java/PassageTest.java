/** Promises 17 to 24. */
public final class PassageTest {
    private static final Due due = new Due();

    public static void main(String[] args) {
        full();
        soonest();
        soonestTies();
        fog();
        sure();
        stones();
        convoy();
        rudder();
        worth();
        openWater();
        wrongNumbers();
        due.end();
    }

    private static void fullOne(ClashRocks x, int ship, int second, int... wants) {
        for (int what = 0; what < 3; what++) {
            due.is("full(" + ship + ", " + second + ", " + what + ")", x.full(ship, second, what), wants[what]);
        }
    }

    /** Both pairs are open in seconds 0 1 2, 6 7 8 and so on; between takes 3 seconds by a pace of 1. */
    private static void full() {
        ClashRocks x = Due.strait("p4/6/3,p3/6/3;P31,P22");
        fullOne(x, 0, 2, ClashRocks.NONE, 0, 15);
        fullOne(x, 0, 3, ClashRocks.NONE, 3, 16);
        fullOne(x, 0, 4, 0, 0, 9);
        fullOne(x, 0, 0, 0, 0, 4);
        // The second ship takes 2, 1, 2 and 1 seconds.
        fullOne(x, 1, 0, ClashRocks.NONE, 2, 6);
        fullOne(x, 1, 1, ClashRocks.NONE, 1, 7);
        fullOne(x, 1, 9999, ClashRocks.NONE, 1, 10005);
        ClashRocks y = Due.strait("p1/6/3,p4/6/2;P31");
        fullOne(y, 0, 0, 1, 1, 8);
        fullOne(y, 0, 5, 1, 0, 14);
        scrapedThenCrushedFirstShut();
    }

    private static void scrapedThenCrushedFirstShut() {
        // Seconds 4 5 6 7 between: open in 4 alone.
        ClashRocks x = Due.strait("p4/5/1+1;P41");
        fullOne(x, 0, 0, 0, 0, 5);
    }

    private static void soonest() {
        ClashRocks x = Due.strait("p4/6/3,p3/6/3;P32,B41");
        // By 2 it comes at 12 and takes 2: from 10 on, then 14 and 2: not open. By 1 then at 17: not open.
        // From 4 on: 6 7, then by 2 at 10: no, by 1 at 11: no. From 5 on: 7 8, by 1 at 12 13 14.
        due.is("soonest(0, 0, -2)", x.soonest(0, 0, -2), 15);
        due.is("soonest(0, 0, -1)", x.soonest(0, 0, -1), 5);
        due.is("soonest(0, 0, 0)", x.soonest(0, 0, 0), 2);
        due.is("soonest(0, 0, 1)", x.soonest(0, 0, 1), 1);
        due.is("soonest(0, 6, -2)", x.soonest(0, 6, -2), 21);
        due.is("soonest(0, 6, -1)", x.soonest(0, 6, -1), 11);
        for (int what = -2; what < 2; what++) {
            due.is("soonest(1, 0, " + what + ")", x.soonest(1, 0, what), ClashRocks.NONE);
        }
        due.is("soonest(0, 9999, -1)", x.soonest(0, 9999, -1), 10001);
    }

    private static void soonestTies() {
        // Always open: the soonest begins at once.
        ClashRocks x = Due.strait("p6/2/2,p5/2/2;P32,P33,P11");
        due.is("soonest(0, 7, -2)", x.soonest(0, 7, -2), 7 + 3 + 2 + 3 + 2);
        due.is("soonest(0, 7, -1)", x.soonest(0, 7, -1), 7);
        due.is("soonest(0, 7, 0)", x.soonest(0, 7, 0), 2);
        due.is("soonest(1, 7, 0)", x.soonest(1, 7, 0), 3);
        // Open in seconds 23 and 24 of 24 alone (and 0 is 23 less): a reach of 1 by any pace takes 1 second,
        // so does a length of 1, and the first pace is told.
        ClashRocks y = Due.strait("p1/24/1;P15");
        due.is("soonest(0, 0, -2)", y.soonest(0, 0, -2), 25);
        due.is("soonest(0, 0, -1)", y.soonest(0, 0, -1), 23);
        due.is("soonest(0, 0, 0)", y.soonest(0, 0, 0), 1);
        // By 1 it begins at 20, by 2 at 22, by 3 at 22, by 4 and 5 at 23: the last begin, the first pace.
        ClashRocks z = Due.strait("p4/24/1;P15");
        due.is("soonest(0, 0, -2)", z.soonest(0, 0, -2), 25);
        due.is("soonest(0, 0, -1)", z.soonest(0, 0, -1), 23);
        due.is("soonest(0, 0, 0)", z.soonest(0, 0, 0), 4);
        // Beginning in T to T and 99 alone: a slow one of 24 is open once in 48.
        ClashRocks s = Due.strait("s30/24/1,s30/24/1,s30/24/1,s30/24/1,s30/24/1,s30/24/1;B15");
        due.is("soonest, never at all these", s.soonest(0, 0, -2), ClashRocks.NONE);
        longestOfAll();
    }

    /** Six reaches of 30 by 1 and a span of 11 each, as late as it may begin. */
    private static void longestOfAll() {
        ClashRocks x = Due.strait("p30/2/2,p30/2/2,p30/2/2,p30/2/2,p30/2/2,p30/24/11;L91");
        // The last pair is open for 11 seconds from 0, 24, 48 .. on: from 235 and 41 k on it comes there.
        due.is("soonest(0, 0, -2)", x.soonest(0, 0, -2), 240 + 11);
        due.is("soonest(0, 0, -1)", x.soonest(0, 0, -1), 240 - 5 * 41 - 30);
        due.is("soonest(0, 0, 5)", x.soonest(0, 0, 5), 1);
        ClashRocks late = Due.strait("p30/23/11,p30/24/11,p30/2/2,p30/2/2,p30/2/2,p30/2/2;L91");
        // It comes at 23 a, then 41 later at 24 b: 23 a + 41 = 24 b by a = 17, then not for 552 seconds.
        int begin = 17 * 23 - 30;
        due.is("soonest, 99 ahead", late.soonest(0, begin - 99, -1), begin);
        due.is("soonest, 99 ahead", late.soonest(0, begin - 99, -2), begin + 6 * 41);
        due.is("soonest, 100 ahead", late.soonest(0, begin - 100, -1), ClashRocks.NONE);
        due.is("soonest, at once", late.soonest(0, begin, -1), begin);
        due.is("soonest, too late", late.soonest(0, begin + 1, -1), ClashRocks.NONE);
    }

    private static void fog() {
        // Between in 6 7 8: by the told phase alone.
        ClashRocks x = Due.strait("p4/6/3;P31");
        due.is("fog(0, 2, 0)", x.fog(0, 2, 0), 1);
        due.is("fog(0, 2, 1)", x.fog(0, 2, 1), 2);
        due.is("fog(0, 3, 0): 1 less", x.fog(0, 3, 0), 1);
        due.is("fog(0, 3, 1)", x.fog(0, 3, 1), 4);
        due.is("fog(0, 1, 0): 1 more", x.fog(0, 1, 0), 1);
        due.is("fog(0, 1, 1)", x.fog(0, 1, 1), 4);
        due.is("fog(0, 0, 0)", x.fog(0, 0, 0), 0);
        due.is("fog(0, 0, 1)", x.fog(0, 0, 1), 1);
        ClashRocks always = Due.strait("p4/6/6,p4/6/6;P31");
        due.is("fog(0, 0, 0)", always.fog(0, 0, 0), 1);
        due.is("fog(0, 0, 1)", always.fog(0, 0, 1), 1);
        // A beat of 2: 1 less and 1 more are the same.
        ClashRocks y = Due.strait("p1/2/1;P11");
        due.is("fog(0, 1, 0)", y.fog(0, 1, 0), 1);
        due.is("fog(0, 1, 1)", y.fog(0, 1, 1), 2);
        due.is("fog(0, 0, 0)", y.fog(0, 0, 0), 1);
        due.is("fog(0, 0, 1)", y.fog(0, 0, 1), 2);
        // 6 7 8: 3 of 4; 10 11 12: 1 of 2, then 1 of 4.
        ClashRocks z = Due.strait("p4/6/4,p1/6/3+2;P31");
        due.is("fog(0, 2, 0)", z.fog(0, 2, 0), 3);
        due.is("fog(0, 2, 1)", z.fog(0, 2, 1), 8);
        z.phase(1, 1);
        due.is("fog(0, 2, 0)", z.fog(0, 2, 0), 3);
        due.is("fog(0, 2, 1)", z.fog(0, 2, 1), 16);
    }

    private static void sure() {
        ClashRocks x = Due.strait("p4/6/5;P31");
        // 5 open seconds, 3 between: in the midst from second 3 on, all phases will do.
        due.is("sure(0, 0)", x.sure(0, 0), 3);
        due.is("sure(0, 4)", x.sure(0, 4), 9);
        due.is("sure(0, 9999)", x.sure(0, 9999), 9999);
        due.is("sure(0, 9994)", x.sure(0, 9994), 9999);
        // Clean from 45 and 552 more on alone; a second off by each pair is likelier than none at all.
        ClashRocks rare = Due.strait("p1/23/1,p1/24/1;P11");
        due.is("sure(0, 538)", rare.sure(0, 538), 597);
        due.is("sure(0, 537)", rare.sure(0, 537), 573);
        due.is("fog(0, 597, 1)", rare.fog(0, 597, 1), 4);
        due.is("fog(0, 573, 1)", rare.fog(0, 573, 1), 8);
        due.is("fog(0, 596, 1)", rare.fog(0, 596, 1), 16);
        ClashRocks never = Due.strait("p4/6/2;P31");
        due.is("sure, never", never.sure(0, 44), 44);
    }

    private static void stones() {
        ClashRocks x = Due.strait("p4/6/3,p3/6/3+5;P31,P41");
        // 6 7 8, then 12 13 14 by phase 5: 5 stones make it 0.
        due.is("stones(0, 2, -1)", x.stones(0, 2, -1), 5);
        due.is("stones(0, 2, 0)", x.stones(0, 2, 0), 0);
        due.is("stones(0, 2, 1)", x.stones(0, 2, 1), 5);
        // 7 8 9: 1 stone, then 13 14 15 by phase 5: none.
        due.is("stones(0, 3, -1)", x.stones(0, 3, -1), 1);
        due.is("stones(0, 3, 0)", x.stones(0, 3, 0), 1);
        due.is("stones(0, 3, 1)", x.stones(0, 3, 1), 0);
        due.is("stones(1, 3, -1)", x.stones(1, 3, -1), ClashRocks.NONE);
        due.is("stones(1, 3, 0)", x.stones(1, 3, 0), ClashRocks.NONE);
        due.is("of(1, 4), nothing was thrown", x.of(1, 4), 5);
        due.is("stones(0, 2, -2)", x.stones(0, 2, -2), ClashRocks.BAD);
        due.is("stones(1, 3, 2)", x.stones(1, 3, 2), ClashRocks.BAD);
    }

    private static void convoy() {
        // Between by HIGH: 3, 2, 2, 1 and 4 seconds; the reach counts for nothing.
        ClashRocks x = Due.strait("p30/24/5,p1/9/9;P31,P42,B65,T22,L25");
        due.is("told(4, 5)", x.told(4, 5), 4);
        due.is("convoy(0, 0, 31)", x.convoy(0, 0, 31), 2 + 4 + 8);
        due.is("convoy(0, 0, 19)", x.convoy(0, 0, 19), 1 + 2);
        due.is("convoy(0, 0, 7)", x.convoy(0, 0, 7), 3);
        due.is("convoy(0, 1, 31)", x.convoy(0, 1, 31), 2 + 4);
        due.is("convoy(0, 3, 31)", x.convoy(0, 3, 31), 2);
        due.is("convoy(0, 3, 17)", x.convoy(0, 3, 17), 16);
        due.is("convoy(0, 3, 1)", x.convoy(0, 3, 1), 0);
        due.is("convoy(0, 4, 31)", x.convoy(0, 4, 31), 8);
        due.is("convoy(0, 5, 31)", x.convoy(0, 5, 31), 0);
        due.is("convoy(1, 9999, 31)", x.convoy(1, 9999, 31), 31);
        due.is("convoy(0, 0, 0)", x.convoy(0, 0, 0), 0);
        due.is("convoy(0, 0, 1)", x.convoy(0, 0, 1), 1);
        ClashRocks slow = Due.strait("s1/24/24,s1/24/23;L91,L91,L91,L91,L91");
        due.is("convoy(0, 0, 31), 55 seconds", slow.convoy(0, 0, 31), 31);
        due.is("convoy(1, 0, 31), 46 seconds", slow.convoy(1, 0, 31), 15);
        due.is("convoy(0, 0, 32)", x.convoy(0, 0, 32), ClashRocks.BAD);
        due.is("convoy(0, 0, -1)", x.convoy(0, 0, -1), ClashRocks.BAD);
        due.is("convoy(2, 0, 1)", x.convoy(2, 0, 1), ClashRocks.BAD);
        due.is("convoy(-1, 0, 1)", x.convoy(-1, 0, 1), ClashRocks.BAD);
        due.is("convoy(0, 10000, 1)", x.convoy(0, 10000, 1), ClashRocks.BAD);
        due.is("convoy(0, -1, 1)", x.convoy(0, -1, 1), ClashRocks.BAD);
        ClashRocks few = Due.strait("p1/9/9;P11,P11");
        due.is("convoy(0, 0, 4), no such ship", few.convoy(0, 0, 4), ClashRocks.BAD);
        due.is("convoy(0, 0, 3)", few.convoy(0, 0, 3), 3);
    }

    private static void rudder() {
        ClashRocks x = Due.strait("p4/6/3,p3/6/3;P31");
        due.is("rudder(0, 2, 0)", x.rudder(0, 2, 0), 0);
        due.is("rudder(0, 2, 1)", x.rudder(0, 2, 1), 3);
        due.is("rudder(0, 4, 4)", x.rudder(0, 4, 4), 0);
        due.is("rudder(0, 4, 5)", x.rudder(0, 4, 5), 3);
        due.is("rudder(0, 0, 999)", x.rudder(0, 0, 999), 3);
        due.is("rudder(0, 0, 1000)", x.rudder(0, 0, 1000), ClashRocks.BAD);
        due.is("rudder(0, 0, -1)", x.rudder(0, 0, -1), ClashRocks.BAD);
        // Scraped at the first, but crushed at the second.
        ClashRocks y = Due.strait("p4/6/3,p4/6/3;P31");
        due.is("full(0, 3, 1)", y.full(0, 3, 1), 1);
        due.is("full(0, 3, 0)", y.full(0, 3, 0), 1);
        due.is("rudder(0, 3, 0)", y.rudder(0, 3, 0), 0);
    }

    private static void worth() {
        // The first is clean from 2, 8, .. 56 on, the second then, too; the third never.
        ClashRocks x = Due.strait("p4/6/3,p3/6/3;P31");
        due.is("worth(0, 0)", x.worth(0, 0), 0);
        due.is("worth(0, 1)", x.worth(0, 1), 0);
        x.phase(1, 1);
        due.is("worth(0, 0)", x.worth(0, 0), 10);
        due.is("worth(0, 1)", x.worth(0, 1), 10);
        ClashRocks y = Due.strait("p4/6/2,p3/6/6;P31");
        due.is("worth(0, 0)", y.worth(0, 0), 60);
        due.is("worth(0, 1)", y.worth(0, 1), 0);
        due.is("worth(1, 0)", y.worth(1, 0), ClashRocks.BAD);
        due.is("worth(0, 2)", y.worth(0, 2), ClashRocks.BAD);
        due.is("worth(-1, 0)", y.worth(-1, 0), ClashRocks.BAD);
        due.is("worth(0, -1)", y.worth(0, -1), ClashRocks.BAD);
    }

    private static void openWater() {
        ClashRocks x = new ClashRocks();
        x.ship(2, 9, 5);
        fullOne(x, 0, 9999, ClashRocks.NONE, 0, 9999);
        due.is("soonest(0, 9999, -2)", x.soonest(0, 9999, -2), 9999);
        due.is("soonest(0, 9999, -1)", x.soonest(0, 9999, -1), 9999);
        due.is("soonest(0, 9999, 0)", x.soonest(0, 9999, 0), ClashRocks.BAD);
        due.is("fog(0, 1, 0)", x.fog(0, 1, 0), 1);
        due.is("fog(0, 1, 1)", x.fog(0, 1, 1), 1);
        due.is("stones(0, 1, -1)", x.stones(0, 1, -1), 0);
        due.is("stones(0, 1, 0)", x.stones(0, 1, 0), ClashRocks.BAD);
        due.is("worth(0, 0)", x.worth(0, 0), ClashRocks.BAD);
    }

    private static void wrongNumbers() {
        ClashRocks x = Due.strait("p4/6/3;P31");
        int[][] begins = {{-1, 0}, {1, 0}, {0, -1}, {0, 10000}};
        for (int[] b : begins) {
            due.is("soonest", x.soonest(b[0], b[1], -2), ClashRocks.BAD);
            due.is("full", x.full(b[0], b[1], 0), ClashRocks.BAD);
            due.is("fog", x.fog(b[0], b[1], 0), ClashRocks.BAD);
            due.is("sure", x.sure(b[0], b[1]), ClashRocks.BAD);
            due.is("stones", x.stones(b[0], b[1], -1), ClashRocks.BAD);
            due.is("rudder", x.rudder(b[0], b[1], 0), ClashRocks.BAD);
        }
        due.is("soonest(0, 0, -3)", x.soonest(0, 0, -3), ClashRocks.BAD);
        due.is("soonest(0, 0, 1)", x.soonest(0, 0, 1), ClashRocks.BAD);
        due.is("full(0, 0, 3)", x.full(0, 0, 3), ClashRocks.BAD);
        due.is("full(0, 0, -1)", x.full(0, 0, -1), ClashRocks.BAD);
        due.is("fog(0, 0, 2)", x.fog(0, 0, 2), ClashRocks.BAD);
        due.is("fog(0, 0, -1)", x.fog(0, 0, -1), ClashRocks.BAD);
    }
}
