/** The edges of sheets: promises 32 to 37. */
public final class EdgesOfSheetsTest extends Edges {
    public static void main(String[] args) {
        nothingAtFirst();
        sheetBad();
        sheetSize();
        newRow();
        dropBad();
        dropNull();
        dropHowMany();
        itemBad();
        itemNull();
        itemCast();
        itemIndex();
        itemLowestBits();
        judgedBad();
        judgedNullCastIndex();
        judgedFromItem();
        judgedNot();
        judgedAsByFull();
        filmBad();
        filmNullCastIndex();
        filmHowMany();
        copyBad();
        copyNull();
        copyCast();
        copyIndex();
        copyRefusedWhole();
        copyOfNothing();
        copyAsIfTakenAhead();
        due.end();
    }

    private static void nothingAtFirst() {
        promise(35, "BAD; NULL.");
        ClashRocks x = new ClashRocks();
        row("drop", x::drop, NULL, NULL, NULL, NULL, BAD);
    }

    private static void sheetBad() {
        promise(34, "BAD: also n above 16");
        ClashRocks x = new ClashRocks();
        badBeyond("sheet", 0, 3, sheet -> x.sheet(sheet, 0, 1));
        badBeyond("sheet, its lane", 0, 3, lane -> x.sheet(0, lane, 1));
        due.is("sheet(0, 0, 17)", x.sheet(0, 0, 17), BAD);
        due.is("sheet(0, 0, MAX)", x.sheet(0, 0, MAX), BAD);
        due.is("drop(0)", x.drop(0), NULL);
        for (int lane = 0; lane < 4; lane++) {
            due.is("sheet of 16", x.sheet(3, lane, 16), 16);
            due.is("sheet of 0", x.sheet(0, lane, 0), 0);
        }
        due.is("drop(3)", x.drop(3), 16);
        due.is("drop(0)", x.drop(0), 0);
    }

    private static void sheetSize() {
        promise(34, "SIZE: n below 0.");
        ClashRocks x = new ClashRocks();
        due.is("sheet(0, 0, -1)", x.sheet(0, 0, -1), SIZE);
        due.is("sheet(0, 0, MIN)", x.sheet(0, 0, MIN), SIZE);
        due.is("drop(0)", x.drop(0), NULL);
        badBeyond("sheet, BAD ahead of SIZE", 0, 3, sheet -> x.sheet(sheet, 0, -1));
        badBeyond("its lane, BAD ahead of SIZE", 0, 3, lane -> x.sheet(0, lane, -1));
        x.sheet(0, 1, 5);
        x.sheet(0, 2, -1);
        due.is("item(0, 1, 4, 1), the row stays", x.item(0, 1, 4, 1), 1);
    }

    private static void newRow() {
        promise(34, "A SHEET holds a new row of a LANE: n.");
        ClashRocks x = Due.strait("p1/2/2;P11");
        x.sheet(0, 0, 1);
        x.item(0, 0, 0, 1);
        due.is("judged", x.judged(0, 0, 0, 0, 0, 2), 2);
        due.is("sheet(0, 0, 1)", x.sheet(0, 0, 1), 1);
        due.is("judged, 0 is no pace", x.judged(0, 0, 0, 0, 0, 2), NOT);
        due.is("sheet(0, 3, 2)", x.sheet(0, 3, 2), 2);
        due.is("item, as the lane that it had", x.item(0, 0, 0, 1), CAST);
        due.is("item, as long", x.item(0, 3, 1, 1), 1);
        due.is("item, beyond", x.item(0, 3, 2, 1), INDEX);
    }

    private static void dropBad() {
        promise(35, "BAD; NULL.");
        badBeyond("drop", 0, 3, new ClashRocks()::drop);
    }

    private static void dropNull() {
        promise(35, "NULL.");
        ClashRocks x = new ClashRocks();
        x.sheet(2, 1, 4);
        due.is("drop(2)", x.drop(2), 4);
        due.is("drop(2) again", x.drop(2), NULL);
        due.is("item(2, 1, 0, 1)", x.item(2, 1, 0, 1), NULL);
    }

    private static void dropHowMany() {
        promise(35, "A SHEET holds nothing: how many items it had.");
        ClashRocks x = new ClashRocks();
        x.sheet(0, 0, 0);
        x.sheet(1, 1, 1);
        x.sheet(2, 2, 16);
        row("drop", x::drop, 0, 1, 16, NULL);
    }

    private static void itemBad() {
        promise(36, "BAD; NULL; CAST; INDEX.");
        ClashRocks x = new ClashRocks();
        badBeyond("item, its sheet, BAD ahead of NULL", 0, 3, sheet -> x.item(sheet, 0, 0, 1));
        badBeyond("item, its lane, BAD ahead of NULL", 0, 3, lane -> x.item(0, lane, 0, 1));
        x.sheet(0, 0, 1);
        badBeyond("item, its lane, BAD ahead of CAST", 0, 3, lane -> x.item(0, lane, 0, 1));
        badBeyond("item, its lane, BAD ahead of INDEX", 0, 3, lane -> x.item(0, lane, 1, 1));
    }

    private static void itemNull() {
        promise(36, "NULL; CAST; INDEX.");
        ClashRocks x = new ClashRocks();
        due.is("item(3, 0, 0, 1)", x.item(3, 0, 0, 1), NULL);
        due.is("item(3, 0, -1, 1), NULL ahead of INDEX", x.item(3, 0, -1, 1), NULL);
        x.sheet(3, 0, 4);
        x.drop(3);
        due.is("item(3, 1, 0, 1), NULL ahead of CAST", x.item(3, 1, 0, 1), NULL);
    }

    private static void itemCast() {
        promise(36, "CAST; INDEX.");
        for (int held = 0; held < 4; held++) {
            ClashRocks x = new ClashRocks();
            x.sheet(0, held, 2);
            for (int lane = 0; lane < 4; lane++) {
                due.is("of " + held + " as " + lane, x.item(0, lane, 0, 1), held == lane ? 1 : CAST);
                due.is("of " + held + " as " + lane + ", CAST ahead of INDEX", x.item(0, lane, 2, 1), held == lane ? INDEX : CAST);
            }
        }
    }

    private static void itemIndex() {
        promise(36, "INDEX.");
        ClashRocks x = new ClashRocks();
        x.sheet(0, 2, 3);
        due.is("item 0", x.item(0, 2, 0, 1), 1);
        due.is("item 2", x.item(0, 2, 2, 1), 1);
        for (int i : new int[] {-1, 3, 15, 16, MIN, MAX}) {
            due.is("item " + i, x.item(0, 2, i, 1), INDEX);
        }
        x.sheet(0, 2, 0);
        due.is("item 0 of none", x.item(0, 2, 0, 1), INDEX);
        x.sheet(0, 2, 16);
        due.is("item 15 of 16", x.item(0, 2, 15, 1), 1);
        due.is("item 16 of 16", x.item(0, 2, 16, 1), INDEX);
    }

    /** What an item became is told by judged(): by a pace of 1 it is behind the pair at 31, by 2 at 16, by 3 at 11. */
    private static void becomes(int lane, long v, int want) {
        ClashRocks x = Due.strait("p30/2/2;P13");
        x.sheet(0, lane, 1);
        due.is("item(0, " + lane + ", 0, " + v + ")", x.item(0, lane, 0, v), 1);
        due.is("lane " + lane + ", " + v, x.judged(0, 0, 0, lane, 0, 2), want);
    }

    private static void itemLowestBits() {
        promise(36, "Item i of a SHEET, taken as a row of a LANE, becomes v, its lowest bits: 1.");
        long[] rounds = {1L << 8, 1L << 16, 1L << 32};
        for (int lane = 0; lane < 4; lane++) {
            becomes(lane, 1, 31);
            becomes(lane, 3, 11);
            becomes(lane, 0, NOT);
            becomes(lane, -1, NOT);
            becomes(lane, Long.MIN_VALUE, NOT);
            becomes(lane, Long.MAX_VALUE, NOT);
            becomes(lane, Long.MIN_VALUE + 2, lane == 3 ? NOT : 16);
            for (int k = 0; k < rounds.length; k++) {
                becomes(lane, rounds[k] + 2, k >= lane ? 16 : NOT);
                becomes(lane, 2 - rounds[k], k >= lane ? 16 : NOT);
                becomes(lane, rounds[k] / 2 + 2, k > lane ? 16 : NOT);
            }
        }
    }

    private static void judgedBad() {
        promise(32, "BAD; NULL; CAST; INDEX; NOT: one is not LOW .. HIGH.");
        ClashRocks x = Due.strait("p1/2/2,p1/2/2;P11,P11");
        // First BAD ahead of NULL, then ahead of CAST and INDEX, then ahead of NOT.
        for (int round = 0; round < 3; round++) {
            int i = round == 1 ? 9 : 0;
            badBeyond("judged, its ship", 0, 1, ship -> x.judged(ship, 0, 0, 0, i, 0));
            badBeyond("judged, its second", 0, 9999, second -> x.judged(0, second, 0, 0, i, 0));
            badBeyond("judged, its sheet", 0, 3, sheet -> x.judged(0, 0, sheet, 0, i, 0));
            badBeyond("judged, its lane", 0, 3, lane -> x.judged(0, 0, 0, lane, i, 0));
            badBeyond("judged, what", 0, 2, what -> x.judged(0, 0, 0, 0, i, what));
            x.sheet(0, round == 0 ? 1 : 0, 2);
        }
        x.item(0, 0, 0, 1);
        x.item(0, 0, 1, 1);
        due.is("from 9999", x.judged(1, 9999, 0, 0, 0, 2), 10003);
    }

    private static void judgedNullCastIndex() {
        promise(32, "NULL; CAST; INDEX; NOT: one is not LOW .. HIGH.");
        ClashRocks x = Due.strait("p1/2/2,p1/2/2;P11");
        due.is("NULL ahead of INDEX", x.judged(0, 0, 2, 3, -1, 0), NULL);
        x.sheet(2, 3, 4);
        due.is("CAST ahead of INDEX", x.judged(0, 0, 2, 2, -1, 0), CAST);
        due.is("CAST ahead of NOT", x.judged(0, 0, 2, 2, 0, 0), CAST);
        due.is("INDEX ahead of NOT", x.judged(0, 0, 2, 3, 3, 0), INDEX);
        due.is("NOT", x.judged(0, 0, 2, 3, 2, 0), NOT);
        x.drop(2);
        due.is("NULL ahead of CAST", x.judged(0, 0, 2, 2, 0, 0), NULL);
    }

    private static void judgedFromItem() {
        promise(32, "an item for each PAIR of a SHEET, taken as a row of a LANE, from item i on");
        ClashRocks x = Due.strait("p30/2/2,p30/2/2;P15");
        x.sheet(0, 1, 4);
        for (int i = 0; i < 4; i++) {
            x.item(0, 1, i, i + 1);
        }
        // By 1 2 3 4 a reach of 30 takes 30, 15, 10 and 8 seconds, and the ship 1 more.
        row("judged from", i -> x.judged(0, 0, 0, 1, i, 2), 47, 27, 20, INDEX, INDEX);
        for (int i : new int[] {-1, 5, MIN, MAX, MAX - 1}) {
            due.is("judged from " + i, x.judged(0, 0, 0, 1, i, 2), INDEX);
        }
        ClashRocks water = new ClashRocks();
        water.ship(0, 1, 1);
        water.sheet(0, 0, 1);
        row("judged without pairs, from", i -> water.judged(0, 5, 0, 0, i, 2), 5, 5, INDEX);
        due.is("judged without pairs, from -1", water.judged(0, 5, 0, 0, -1, 2), INDEX);
    }

    private static void judgedNot() {
        promise(32, "NOT: one is not LOW .. HIGH.");
        // HIGH and LOW: 1 to 4; 1 to 2; 4 alone; 1 to 2.
        int[][] lowHighs = {{1, 4}, {1, 2}, {4, 4}, {1, 2}};
        ClashRocks x = Due.strait("p1/2/2,p1/24/1;P14,T14,B14,L14");
        x.sheet(0, 3, 2);
        for (int ship = 0; ship < 4; ship++) {
            int high = lowHighs[ship][1];
            for (long pace : new long[] {-1, 0, 1, 2, 3, 4, 5, (1L << 32) + high, Long.MIN_VALUE, Long.MAX_VALUE}) {
                boolean isPace = pace >= lowHighs[ship][0] && pace <= high;
                for (int i = 0; i < 2; i++) {
                    x.item(0, 3, i, pace);
                    x.item(0, 3, 1 - i, high);
                    boolean isNot = x.judged(ship, 0, 0, 3, 0, 1) == NOT;
                    due.is("ship " + ship + ", pace " + pace + " at " + i + " is NOT", isNot ? 1 : 0, isPace ? 0 : 1);
                }
            }
        }
        // Crushed at the first pair, but the item for the second is looked at, too.
        ClashRocks y = Due.strait("p1/24/1,p1/2/2;P31");
        y.sheet(0, 3, 2);
        y.item(0, 3, 0, 1);
        due.is("the second is 0", y.judged(0, 0, 0, 3, 0, 0), NOT);
        y.item(0, 3, 1, 1);
        due.is("the second is 1", y.judged(0, 0, 0, 3, 0, 0), 0);
    }

    private static void judgedAsByFull() {
        promise(32, "as by full() (0, 1, 2)");
        ClashRocks x = Due.strait("p1/24/1+23,p1/24/1+19,p1/24/1+17;P21");
        x.sheet(0, 0, 3);
        for (int i = 0; i < 3; i++) {
            x.item(0, 0, i, 1);
        }
        row("crushed", what -> x.judged(0, 0, 0, 0, 0, what), 1, 1, 4, BAD);
        x.phase(1, 20);
        row("scraped", what -> x.judged(0, 0, 0, 0, 0, what), NONE, 7, 9, BAD);
    }

    private static void filmBad() {
        promise(33, "BAD; NULL; CAST; INDEX.");
        ClashRocks x = Due.strait("p1/2/2,p1/2/2");
        for (int round = 0; round < 2; round++) {
            badBeyond("film, its second", 0, 99999, second -> x.film(second, 0, 0, 9));
            badBeyond("film, its sheet", 0, 3, sheet -> x.film(0, sheet, 0, 9));
            badBeyond("film, its lane", 0, 3, lane -> x.film(0, 0, lane, 9));
            x.sheet(0, 1, 2);
        }
        due.is("film(0, 0, 1, 0)", x.film(0, 0, 1, 0), 2);
        due.is("film(99999, 0, 1, 0)", x.film(99999, 0, 1, 0), 2);
    }

    private static void filmNullCastIndex() {
        promise(33, "NULL; CAST; INDEX.");
        ClashRocks x = Due.strait("p1/2/2,p1/2/2");
        due.is("NULL ahead of INDEX", x.film(0, 1, 2, -1), NULL);
        x.sheet(1, 2, 3);
        due.is("CAST ahead of INDEX", x.film(0, 1, 3, -1), CAST);
        row("film from", i -> x.film(0, 1, 2, i), 2, 2, INDEX, INDEX);
        for (int i : new int[] {-1, MIN, MAX, MAX - 1}) {
            due.is("film from " + i, x.film(0, 1, 2, i), INDEX);
        }
        x.sheet(1, 2, 1);
        due.is("one item for two pairs", x.film(0, 1, 2, 0), INDEX);
        x.drop(1);
        due.is("NULL ahead of CAST", x.film(0, 1, 0, 0), NULL);
        ClashRocks water = new ClashRocks();
        water.sheet(0, 0, 1);
        row("film without pairs, from", i -> water.film(0, 0, 0, i), 0, 0, INDEX);
    }

    private static void filmHowMany() {
        promise(33, "Whether PAIRS are OPEN in a second (0 .. 99999; 1, 0), one for each, comes to a SHEET likewise: how many.");
        // Open in even seconds, in odd ones: what came is told as paces, where 0 is none.
        ClashRocks x = Due.strait("p1/2/1,p1/2/1+1;P12");
        for (int lane = 0; lane < 4; lane++) {
            for (int second : new int[] {0, 99999}) {
                x.sheet(0, lane, 5);
                for (int i = 0; i < 5; i++) {
                    x.item(0, lane, i, 2);
                }
                due.is("film", x.film(second, 0, lane, 1), 2);
                Due.read(x, "p30/2/2;P12");
                int first = second == 0 ? 31 : NOT;
                int other = second == 0 ? NOT : 31;
                int held = lane;
                row("items, as paces", i -> x.judged(0, 0, 0, held, i, 2), 16, first, other, 16, 16, INDEX);
                Due.read(x, "p1/2/1,p1/2/1+1;P12");
            }
        }
    }

    private static void copyBad() {
        promise(37, "BAD; NULL (either); CAST: of unlike LANES; INDEX.");
        ClashRocks x = new ClashRocks();
        badBeyond("copy from, BAD ahead of NULL", 0, 3, from -> x.copy(from, -1, 0, -1, -1));
        badBeyond("copy to, BAD ahead of NULL", 0, 3, to -> x.copy(0, -1, to, -1, -1));
        x.sheet(0, 0, 1);
        badBeyond("copy from, BAD ahead of INDEX", 0, 3, from -> x.copy(from, -1, 0, -1, -1));
        badBeyond("copy to, BAD ahead of INDEX", 0, 3, to -> x.copy(0, -1, to, -1, -1));
    }

    private static void copyNull() {
        promise(37, "NULL (either)");
        ClashRocks x = new ClashRocks();
        due.is("both", x.copy(0, 0, 3, 0, 0), NULL);
        due.is("both, the same", x.copy(1, 0, 1, 0, 0), NULL);
        x.sheet(0, 2, 1);
        due.is("to, ahead of INDEX", x.copy(0, 9, 3, 9, 9), NULL);
        due.is("from, ahead of INDEX", x.copy(3, 9, 0, 9, 9), NULL);
        x.sheet(3, 1, 1);
        x.drop(3);
        due.is("to, ahead of CAST", x.copy(0, 0, 3, 0, 1), NULL);
        due.is("from, ahead of CAST", x.copy(3, 0, 0, 0, 1), NULL);
    }

    private static void copyCast() {
        promise(37, "CAST: of unlike LANES");
        ClashRocks x = new ClashRocks();
        for (int from = 0; from < 4; from++) {
            for (int to = 0; to < 4; to++) {
                x.sheet(0, from, 2);
                x.sheet(1, to, 2);
                due.is("of " + from + " to " + to, x.copy(0, 0, 1, 0, 2), from == to ? 2 : CAST);
                due.is("of " + from + " to " + to + ", none", x.copy(0, 0, 1, 0, 0), from == to ? 0 : CAST);
                due.is("of " + from + " to " + to + ", ahead of INDEX", x.copy(0, 0, 1, 0, 3), from == to ? INDEX : CAST);
            }
        }
    }

    private static void copyIndex() {
        promise(37, "INDEX.");
        ClashRocks x = new ClashRocks();
        x.sheet(0, 0, 3);
        x.sheet(1, 0, 5);
        int[][] within = {{0, 0, 3}, {0, 2, 3}, {2, 4, 1}, {3, 5, 0}, {0, 0, 0}};
        for (int[] w : within) {
            due.is("copy(0, " + w[0] + ", 1, " + w[1] + ", " + w[2] + ")", x.copy(0, w[0], 1, w[1], w[2]), w[2]);
        }
        int[][] beyond = {{-1, 0, 1}, {0, -1, 1}, {0, 0, -1}, {1, 1, -1}, {0, 0, 4}, {1, 0, 3}, {3, 0, 1}, {4, 0, 0}, {0, 3, 3},
            {0, 5, 1}, {0, 6, 0}, {-1, 0, 0}, {0, -1, 0}, {MIN, 0, 1}, {0, MIN, 1}, {0, 0, MIN}, {MAX, 0, 1}, {0, MAX, 1},
            {0, 0, MAX}, {1, 1, MAX}, {MAX, MAX, MAX}, {MIN, MIN, MIN}, {-1, -1, MIN}, {MAX, MAX, MIN}};
        for (int[] b : beyond) {
            due.is("copy(0, " + b[0] + ", 1, " + b[1] + ", " + b[2] + ")", x.copy(0, b[0], 1, b[1], b[2]), INDEX);
        }
    }

    /** Three items as paces for three reaches of 30, by which they take 30, 15, 10, 8 and 6 seconds, and 1 more each. */
    private static void items(ClashRocks x, int sheet, int from, int want) {
        due.is("items from " + from, x.judged(0, 0, sheet, 2, from, 2), want);
    }

    private static ClashRocks fivePaces() {
        ClashRocks x = Due.strait("p30/2/2,p30/2/2,p30/2/2;P15");
        x.sheet(0, 2, 5);
        for (int i = 0; i < 5; i++) {
            x.item(0, 2, i, i + 1);
        }
        return x;
    }

    private static void copyRefusedWhole() {
        terms("What is refused changes nothing, but as told.");
        ClashRocks x = fivePaces();
        due.is("copy(0, 0, 0, 3, 3), two would have room", x.copy(0, 0, 0, 3, 3), INDEX);
        due.is("copy(0, 3, 0, 0, 3), two are there", x.copy(0, 3, 0, 0, 3), INDEX);
        items(x, 0, 0, 30 + 15 + 10 + 3);
        items(x, 0, 2, 10 + 8 + 6 + 3);
    }

    private static void copyOfNothing() {
        promise(37, "n items of a SHEET from i on come to another one (or the same) from j on");
        ClashRocks x = fivePaces();
        due.is("copy(0, 5, 0, 0, 0)", x.copy(0, 5, 0, 0, 0), 0);
        due.is("copy(0, 0, 0, 5, 0)", x.copy(0, 0, 0, 5, 0), 0);
        x.sheet(1, 2, 0);
        due.is("copy(1, 0, 0, 0, 0)", x.copy(1, 0, 0, 0, 0), 0);
        due.is("copy(0, 0, 1, 0, 0)", x.copy(0, 0, 1, 0, 0), 0);
        due.is("copy(0, 0, 1, 0, 1)", x.copy(0, 0, 1, 0, 1), INDEX);
        items(x, 0, 0, 30 + 15 + 10 + 3);
        x.sheet(1, 2, 3);
        due.is("copy(0, 2, 1, 0, 3), to another one", x.copy(0, 2, 1, 0, 3), 3);
        items(x, 1, 0, 10 + 8 + 6 + 3);
        x.item(0, 2, 2, 1);
        items(x, 1, 0, 10 + 8 + 6 + 3);
    }

    private static void copyAsIfTakenAhead() {
        promise(37, "as if all were taken ahead: n.");
        ClashRocks x = fivePaces();
        // 1 1 2 3 4
        due.is("copy(0, 0, 0, 1, 4)", x.copy(0, 0, 0, 1, 4), 4);
        items(x, 0, 0, 30 + 30 + 15 + 3);
        items(x, 0, 2, 15 + 10 + 8 + 3);
        ClashRocks y = fivePaces();
        // 2 3 4 5 5
        due.is("copy(0, 1, 0, 0, 4)", y.copy(0, 1, 0, 0, 4), 4);
        items(y, 0, 0, 15 + 10 + 8 + 3);
        items(y, 0, 2, 8 + 6 + 6 + 3);
        due.is("copy(0, 0, 0, 0, 5), onto itself", y.copy(0, 0, 0, 0, 5), 5);
        items(y, 0, 2, 8 + 6 + 6 + 3);
    }
}
