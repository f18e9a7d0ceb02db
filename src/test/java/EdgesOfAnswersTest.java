/** The edges of answers below 0, whichever call gives them, and of how long an object lasts. */
public final class EdgesOfAnswersTest extends Edges {
    public static void main(String[] args) {
        numbers();
        badAheadOfFull();
        badAheadOfNot();
        notAheadOfBadInPass();
        badAheadOfNone();
        machineBehindBad();
        machineInThisOrder();
        notBehindTheMachine();
        noOrderButWhatACallNames();
        fromSeconds();
        sheetsAndItems();
        sets();
        fiveHundredAndTwelveCalls();
        due.end();
    }

    private static void numbers() {
        terms("BAD -1 (a number is not as told, there is no such thing), NOT -2 (as told), FULL -3, NONE -4 (as told), CAST -12");
        due.is("BAD", ClashRocks.BAD, -1);
        due.is("NOT", ClashRocks.NOT, -2);
        due.is("FULL", ClashRocks.FULL, -3);
        due.is("NONE", ClashRocks.NONE, -4);
        due.is("CAST", ClashRocks.CAST, -12);
        terms("what the machine finds: NULL -11, INDEX -13, SIZE -14");
        due.is("NULL", ClashRocks.NULL, -11);
        due.is("INDEX", ClashRocks.INDEX, -13);
        due.is("SIZE", ClashRocks.SIZE, -14);
    }

    private static void badAheadOfFull() {
        terms("Answers below 0, of several the first that a call names");
        ClashRocks x = Due.strait("p1/2/2,p1/2/2,p1/2/2,p1/2/2,p1/2/2,p1/2/2;P11,P11,P11,P11,P11");
        idleTo(x, 9999);
        for (int i = 0; i < 100; i++) {
            x.type('p');
        }
        for (int i = 0; i < 12; i++) {
            x.look(i, 1);
        }
        due.is("pair", x.pair(0, 1, 2, 1), FULL);
        due.is("pair, both", x.pair(0, 1, 2, 0), BAD);
        due.is("ship", x.ship(0, 1, 1), FULL);
        due.is("ship, both", x.ship(0, 0, 1), BAD);
        due.is("type", x.type('p'), FULL);
        due.is("type, both", x.type(0), BAD);
        due.is("idle", x.idle(1), FULL);
        due.is("idle, both", x.idle(0), BAD);
        due.is("look", x.look(0, 0), FULL);
        due.is("look, both", x.look(-1, 0), BAD);
    }

    private static void badAheadOfNot() {
        terms("Answers below 0, of several the first that a call names");
        ClashRocks x = Due.strait("p1/2/2;P11");
        x.setOut(0);
        due.is("setOut", x.setOut(0), NOT);
        due.is("setOut, both", x.setOut(1), BAD);
    }

    private static void notAheadOfBadInPass() {
        terms("Answers below 0, of several the first that a call names");
        ClashRocks x = Due.strait("p1/2/2;P11");
        idleTo(x, 9999);
        due.is("pass, all three", x.pass(2), NOT);
        due.is("pass, NOT and FULL", x.pass(1), NOT);
        x.setOut(0);
        due.is("pass, BAD and FULL", x.pass(2), BAD);
        due.is("pass, FULL", x.pass(1), FULL);
    }

    private static void badAheadOfNone() {
        terms("Answers below 0, of several the first that a call names");
        ClashRocks x = Due.strait("p1/2/1;P21");
        x.look(1, 1);
        x.look(1, 0);
        due.is("soonest", x.soonest(0, 0, -2), NONE);
        due.is("soonest, both", x.soonest(0, 0, -3), BAD);
        due.is("stones", x.stones(0, 0, -1), NONE);
        due.is("stones, both", x.stones(0, 0, -2), BAD);
        due.is("fits", x.fits(1), NONE);
        due.is("foretell", x.foretell(0), NONE);
        due.is("foretell, both", x.foretell(-1), BAD);
        due.is("next", x.next(0, 0), NONE);
        due.is("next, both", x.next(0, -1), BAD);
    }

    private static void machineBehindBad() {
        terms("Answers below 0, of several the first that a call names");
        ClashRocks x = Due.strait("p1/2/2;P11");
        for (int round = 0; round < 2; round++) {
            due.is("judged", x.judged(0, 0, 0, 0, 9, 3), BAD);
            due.is("film", x.film(100000, 0, 0, 9), BAD);
            due.is("item", x.item(0, 4, 9, 0), BAD);
            due.is("copy", x.copy(0, 9, 4, 9, 9), BAD);
            due.is("sheet", x.sheet(4, 0, -1), BAD);
            x.sheet(0, 1, 1);
        }
    }

    private static void machineInThisOrder() {
        terms("(NULL, CAST, INDEX, SIZE in this order)");
        ClashRocks x = Due.strait("p1/2/2;P11");
        x.sheet(1, 1, 1);
        int[] wants = {NULL, CAST, INDEX};
        for (int round = 0; round < wants.length; round++) {
            due.is("judged", x.judged(0, 0, 0, 0, 9, 0), wants[round]);
            due.is("film", x.film(0, 0, 0, 9), wants[round]);
            due.is("item", x.item(0, 0, 9, 0), wants[round]);
            x.sheet(1, round == 2 ? 0 : 1, 1);
            x.sheet(0, round == 0 ? 2 : 0, 1);
        }
        ClashRocks y = new ClashRocks();
        due.is("copy", y.copy(0, 9, 1, 9, -1), NULL);
        y.sheet(0, 0, 1);
        due.is("copy", y.copy(0, 9, 1, 9, -1), NULL);
        y.sheet(1, 1, 1);
        due.is("copy", y.copy(0, 9, 1, 9, -1), CAST);
        y.sheet(1, 0, 1);
        due.is("copy, fewer than none are no SIZE", y.copy(0, 0, 1, 0, -1), INDEX);
    }

    private static void notBehindTheMachine() {
        terms("Answers below 0, of several the first that a call names");
        ClashRocks x = Due.strait("p1/2/2,p1/2/2;P11");
        x.sheet(0, 0, 2);
        due.is("judged, INDEX and NOT", x.judged(0, 0, 0, 0, 1, 0), INDEX);
        due.is("judged, CAST and NOT", x.judged(0, 0, 0, 1, 0, 0), CAST);
        due.is("judged, NOT", x.judged(0, 0, 0, 0, 0, 0), NOT);
    }

    private static void noOrderButWhatACallNames() {
        terms("Answers below 0, of several the first that a call names");
        // sheet() names neither NULL nor CAST: that there is nothing yet, or another lane, does not matter to it.
        ClashRocks x = new ClashRocks();
        due.is("sheet(0, 0, -1), nothing yet", x.sheet(0, 0, -1), SIZE);
        x.sheet(0, 3, 1);
        due.is("sheet(0, 0, -1), another lane", x.sheet(0, 0, -1), SIZE);
        due.is("sheet(0, 0, 2), another lane", x.sheet(0, 0, 2), 2);
    }

    private static void fromSeconds() {
        terms("---- 2 what comes (from seconds 0 .. 9999).");
        ClashRocks x = Due.strait("p1/2/2;P11");
        int[] seconds = {0, 9999};
        for (int second : seconds) {
            due.is("soonest", x.soonest(0, second, -2), second + 2);
            due.is("full", x.full(0, second, 2), second + 2);
            due.is("fog", x.fog(0, second, 0), 1);
            due.is("sure", x.sure(0, second), second);
            due.is("stones", x.stones(0, second, -1), 0);
            due.is("convoy", x.convoy(0, second, 1), 1);
            due.is("rudder", x.rudder(0, second, 999), 0);
        }
        for (int second : new int[] {-1, 10000, MIN, MAX}) {
            due.is("soonest", x.soonest(0, second, -2), BAD);
            due.is("full", x.full(0, second, 2), BAD);
            due.is("fog", x.fog(0, second, 0), BAD);
            due.is("sure", x.sure(0, second), BAD);
            due.is("stones", x.stones(0, second, -1), BAD);
            due.is("convoy", x.convoy(0, second, 1), BAD);
            due.is("rudder", x.rudder(0, second, 0), BAD);
        }
    }

    private static void sheetsAndItems() {
        terms("sheets 0 .. 3: nothing (at first), or a row of a LANE: 0 bytes, 1 shorts, 2 ints, 3 longs, of 0 to 16 items.");
        ClashRocks x = new ClashRocks();
        row("drop, at first", x::drop, NULL, NULL, NULL, NULL, BAD);
        for (int lane = 0; lane < 4; lane++) {
            due.is("sheet of none", x.sheet(lane, lane, 0), 0);
            due.is("item 0", x.item(lane, lane, 0, 1), INDEX);
            due.is("sheet of 16", x.sheet(lane, lane, 16), 16);
            due.is("item 15", x.item(lane, lane, 15, 1), 1);
            due.is("item 16", x.item(lane, lane, 16, 1), INDEX);
            due.is("sheet of 17", x.sheet(lane, lane, 17), BAD);
        }
        row("drop", x::drop, 16, 16, 16, 16, BAD);
    }

    private static void sets() {
        terms("Sets are bits.");
        // Scraped at the second and the sixth alone: between in 3 and 11, as told by a phase that shuts there.
        ClashRocks x = Due.strait("p1/2/2,p1/24/23+20,p1/2/2,p1/2/2,p1/2/2,p1/24/23+12;P11");
        due.is("full(0, 0, 1)", x.full(0, 0, 1), 2 + 32);
        due.is("rudder(0, 0, 0)", x.rudder(0, 0, 0), 2 + 32);
    }

    private static void fiveHundredAndTwelveCalls() {
        terms("An object is used for at most 512 calls after it has been made");
        ClashRocks x = new ClashRocks();
        for (int i = 1; i <= 255; i++) {
            due.is("idle(39)", x.idle(39), 39 * i);
            due.is("count(6)", x.count(6), Math.min(i, 8));
        }
        due.is("the call 511", x.undo(), 7);
        due.is("the call 512", x.count(2), 39 * 254);
    }
}
