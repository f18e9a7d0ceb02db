/** Promises 32 to 37. */
public final class SheetsTest {
    private static final Due due = new Due();
    /** Open in seconds 0 1 2, 6 7 8 and so on, and a ship of length 3 that goes by 1, 2 or 3. */
    private static final String STRAIT = "p4/6/3,p3/6/3;P33";

    public static void main(String[] args) {
        sheet();
        drop();
        itemsByLanes();
        judged();
        judgedRefused();
        film();
        copy();
        copyOverItself();
        openWater();
        due.end();
    }

    private static void sheet() {
        ClashRocks x = new ClashRocks();
        due.is("sheet(-1, 0, 1)", x.sheet(-1, 0, 1), ClashRocks.BAD);
        due.is("sheet(4, 0, 1)", x.sheet(4, 0, 1), ClashRocks.BAD);
        due.is("sheet(0, -1, 1)", x.sheet(0, -1, 1), ClashRocks.BAD);
        due.is("sheet(0, 4, 1)", x.sheet(0, 4, 1), ClashRocks.BAD);
        due.is("sheet(0, 0, 17)", x.sheet(0, 0, 17), ClashRocks.BAD);
        due.is("sheet(0, 0, MAX)", x.sheet(0, 0, Integer.MAX_VALUE), ClashRocks.BAD);
        due.is("sheet(0, 0, -1)", x.sheet(0, 0, -1), ClashRocks.SIZE);
        due.is("sheet(0, 0, MIN)", x.sheet(0, 0, Integer.MIN_VALUE), ClashRocks.SIZE);
        due.is("sheet(4, 0, -1), wrong ahead of size", x.sheet(4, 0, -1), ClashRocks.BAD);
        due.is("drop(0), still nothing", x.drop(0), ClashRocks.NULL);
        due.is("sheet(0, 0, 16)", x.sheet(0, 0, 16), 16);
        due.is("sheet(0, 1, -1)", x.sheet(0, 1, -1), ClashRocks.SIZE);
        due.is("item(0, 0, 15, 1), the row stays", x.item(0, 0, 15, 1), 1);
        due.is("sheet(0, 1, 2), in its place", x.sheet(0, 1, 2), 2);
        due.is("item(0, 0, 0, 1)", x.item(0, 0, 0, 1), ClashRocks.CAST);
        due.is("item(0, 1, 2, 1)", x.item(0, 1, 2, 1), ClashRocks.INDEX);
        newRowIsEmpty();
    }

    private static void newRowIsEmpty() {
        ClashRocks x = Due.strait(STRAIT);
        x.sheet(0, 2, 2);
        due.is("judged, paces of 0", x.judged(0, 0, 0, 2, 0, 0), ClashRocks.NOT);
        x.item(0, 2, 0, 1);
        x.item(0, 2, 1, 1);
        due.is("judged", x.judged(0, 2, 0, 2, 0, 0), ClashRocks.NONE);
        x.sheet(0, 2, 2);
        due.is("judged, of a new row", x.judged(0, 2, 0, 2, 0, 0), ClashRocks.NOT);
    }

    private static void drop() {
        ClashRocks x = new ClashRocks();
        due.is("drop(-1)", x.drop(-1), ClashRocks.BAD);
        due.is("drop(4)", x.drop(4), ClashRocks.BAD);
        due.is("drop(3)", x.drop(3), ClashRocks.NULL);
        x.sheet(3, 2, 0);
        due.is("drop(3)", x.drop(3), 0);
        x.sheet(3, 2, 11);
        due.is("drop(3)", x.drop(3), 11);
        due.is("drop(3)", x.drop(3), ClashRocks.NULL);
        due.is("item(3, 2, 0, 1)", x.item(3, 2, 0, 1), ClashRocks.NULL);
    }

    /** What an item has become is seen by whether it is a pace. */
    private static void itemsByLanes() {
        ClashRocks x = Due.strait("p1/2/2;P15");
        long[] high = {1L << 8, 1L << 16, 1L << 32};
        for (int lane = 0; lane < 4; lane++) {
            x.sheet(lane, lane, 1);
            for (int bit = 0; bit < high.length; bit++) {
                x.item(lane, lane, 0, high[bit] + 3);
                int want = lane > bit ? ClashRocks.NOT : 2;
                due.is("lane " + lane + ", bit " + bit, x.judged(0, 0, lane, lane, 0, 2), want);
            }
            x.item(lane, lane, 0, -1);
            due.is("lane " + lane + ", -1", x.judged(0, 0, lane, lane, 0, 2), ClashRocks.NOT);
            x.item(lane, lane, 0, 128 + 3);
            due.is("lane " + lane + ", 131", x.judged(0, 0, lane, lane, 0, 2), ClashRocks.NOT);
        }
        due.is("item(4, 0, 0, 1)", x.item(4, 0, 0, 1), ClashRocks.BAD);
        due.is("item(-1, 0, 0, 1)", x.item(-1, 0, 0, 1), ClashRocks.BAD);
        due.is("item(0, 4, 0, 1)", x.item(0, 4, 0, 1), ClashRocks.BAD);
        due.is("item(0, -1, 0, 1)", x.item(0, -1, 0, 1), ClashRocks.BAD);
        due.is("item(0, 1, 9, 1), cast ahead of index", x.item(0, 1, 9, 1), ClashRocks.CAST);
        due.is("item(0, 0, 1, 1)", x.item(0, 0, 1, 1), ClashRocks.INDEX);
        due.is("item(0, 0, -1, 1)", x.item(0, 0, -1, 1), ClashRocks.INDEX);
        due.is("item(0, 0, MAX, 1)", x.item(0, 0, Integer.MAX_VALUE, 1), ClashRocks.INDEX);
        x.drop(1);
        due.is("item(1, 0, 9, 1), null ahead of cast", x.item(1, 0, 9, 1), ClashRocks.NULL);
    }

    private static void paces(ClashRocks x, int sheet, int lane, int i, int... paces) {
        for (int k = 0; k < paces.length; k++) {
            due.is("item", x.item(sheet, lane, i + k, paces[k]), 1);
        }
    }

    private static void judgedAs(ClashRocks x, int second, int i, int... wants) {
        for (int what = 0; what < 3; what++) {
            due.is("judged(0, " + second + ", 2, 1, " + i + ", " + what + ")", x.judged(0, second, 2, 1, i, what), wants[what]);
        }
    }

    private static void judged() {
        ClashRocks x = Due.strait(STRAIT);
        x.sheet(2, 1, 4);
        paces(x, 2, 1, 0, 1, 1, 3, 2);
        judgedAs(x, 2, 0, ClashRocks.NONE, 0, 15);
        judgedAs(x, 3, 0, ClashRocks.NONE, 3, 16);
        judgedAs(x, 4, 0, 0, 0, 9);
        // By 1 then 3: 6 7 8, then 10: its only one.
        judgedAs(x, 2, 1, ClashRocks.NONE, 2, 11);
        // By 3 then 2: 2, then 5 6: crushed at once.
        judgedAs(x, 0, 2, 1, 0, 5);
        // From 1 on: not 3, its only one, then 6 7.
        judgedAs(x, 1, 2, ClashRocks.NONE, 1, 8);
    }

    private static void judgedRefused() {
        ClashRocks x = Due.strait(STRAIT);
        due.is("null", x.judged(0, 0, 2, 1, 0, 0), ClashRocks.NULL);
        x.sheet(2, 1, 4);
        paces(x, 2, 1, 0, 4, 1, 0, 1);
        due.is("cast", x.judged(0, 0, 2, 0, 9, 0), ClashRocks.CAST);
        due.is("index, the last", x.judged(0, 0, 2, 1, 3, 0), ClashRocks.INDEX);
        due.is("index, below", x.judged(0, 0, 2, 1, -1, 0), ClashRocks.INDEX);
        due.is("index, far", x.judged(0, 0, 2, 1, Integer.MAX_VALUE, 0), ClashRocks.INDEX);
        due.is("not, above", x.judged(0, 0, 2, 1, 0, 0), ClashRocks.NOT);
        due.is("not, behind one that crushes", x.judged(0, 0, 2, 1, 1, 0), ClashRocks.NOT);
        due.is("ship", x.judged(1, 0, 2, 1, 0, 0), ClashRocks.BAD);
        due.is("ship", x.judged(-1, 0, 2, 1, 0, 0), ClashRocks.BAD);
        due.is("second", x.judged(0, 10000, 2, 1, 0, 0), ClashRocks.BAD);
        due.is("second", x.judged(0, -1, 2, 1, 0, 0), ClashRocks.BAD);
        due.is("sheet", x.judged(0, 0, 4, 1, 0, 0), ClashRocks.BAD);
        due.is("lane", x.judged(0, 0, 2, 4, 0, 0), ClashRocks.BAD);
        due.is("what", x.judged(0, 0, 2, 1, 0, 3), ClashRocks.BAD);
        due.is("what, ahead of null", x.judged(0, 0, 3, 1, 0, -1), ClashRocks.BAD);
    }

    private static void film() {
        ClashRocks x = Due.strait(STRAIT);
        due.is("null", x.film(0, 0, 3, 0), ClashRocks.NULL);
        x.sheet(0, 3, 3);
        due.is("film(-1, 0, 3, 0)", x.film(-1, 0, 3, 0), ClashRocks.BAD);
        due.is("film(100000, 0, 3, 0)", x.film(100000, 0, 3, 0), ClashRocks.BAD);
        due.is("film(0, 4, 3, 0)", x.film(0, 4, 3, 0), ClashRocks.BAD);
        due.is("film(0, 0, 4, 0)", x.film(0, 0, 4, 0), ClashRocks.BAD);
        due.is("film(0, 0, 2, 9)", x.film(0, 0, 2, 9), ClashRocks.CAST);
        due.is("film(0, 0, 3, 2)", x.film(0, 0, 3, 2), ClashRocks.INDEX);
        due.is("film(0, 0, 3, -1)", x.film(0, 0, 3, -1), ClashRocks.INDEX);
        due.is("judged, nothing came", x.judged(0, 0, 0, 3, 1, 0), ClashRocks.NOT);
        due.is("film(2, 0, 3, 1)", x.film(2, 0, 3, 1), 2);
        due.is("judged, open is a pace of 1", x.judged(0, 2, 0, 3, 1, 2), 15);
        due.is("judged, the item ahead is 0", x.judged(0, 2, 0, 3, 0, 2), ClashRocks.NOT);
        due.is("film(99999, 0, 3, 1)", x.film(99999, 0, 3, 1), 2);
        due.is("judged, shut is 0", x.judged(0, 2, 0, 3, 1, 2), ClashRocks.NOT);
        eachPairApart();
    }

    private static void eachPairApart() {
        ClashRocks x = Due.strait("p1/2/1,p1/2/1+1;P11");
        x.sheet(0, 0, 2);
        x.sheet(1, 0, 2);
        x.film(0, 0, 0, 0);
        x.film(1, 1, 0, 0);
        due.is("1 0", x.judged(0, 0, 0, 0, 0, 2), ClashRocks.NOT);
        x.copy(1, 1, 0, 1, 1);
        due.is("1 1", x.judged(0, 0, 0, 0, 0, 2), 4);
        x.copy(1, 0, 0, 0, 1);
        due.is("0 1", x.judged(0, 0, 0, 0, 0, 2), ClashRocks.NOT);
    }

    private static void copy() {
        ClashRocks x = new ClashRocks();
        due.is("copy(-1, ..)", x.copy(-1, 0, 0, 0, 0), ClashRocks.BAD);
        due.is("copy(.., 4, ..)", x.copy(0, 0, 4, 0, 0), ClashRocks.BAD);
        due.is("copy, both null", x.copy(0, 0, 1, 0, 0), ClashRocks.NULL);
        due.is("copy(4, ..)", x.copy(4, 0, 0, 0, 0), ClashRocks.BAD);
        due.is("copy(.., -1, ..)", x.copy(0, 0, -1, 0, 0), ClashRocks.BAD);
        x.sheet(3, 1, 1);
        due.is("copy(3, 0, 3, 0, 1)", x.copy(3, 0, 3, 0, 1), 1);
        x.sheet(0, 1, 3);
        due.is("copy, to null", x.copy(0, 0, 1, 0, 0), ClashRocks.NULL);
        due.is("copy, from null", x.copy(1, 0, 0, 0, 0), ClashRocks.NULL);
        x.sheet(1, 2, 4);
        due.is("copy, unlike lanes, ahead of index", x.copy(0, 9, 1, 0, 0), ClashRocks.CAST);
        x.sheet(1, 1, 4);
        due.is("copy of nothing", x.copy(0, 3, 1, 4, 0), 0);
        due.is("copy of all", x.copy(0, 0, 1, 1, 3), 3);
        int[][] beyond = {{0, 0, 4}, {1, 0, 3}, {0, 2, 3}, {4, 0, 0}, {0, 5, 0}, {-1, 0, 1}, {0, -1, 1}, {0, 0, -1},
            {Integer.MAX_VALUE, 0, 1}, {0, Integer.MAX_VALUE, 1}, {0, 0, Integer.MAX_VALUE}, {1, 1, Integer.MAX_VALUE},
            {0, 0, Integer.MIN_VALUE}, {Integer.MIN_VALUE, 0, 1}, {Integer.MAX_VALUE, 0, Integer.MAX_VALUE}};
        for (int[] b : beyond) {
            due.is("copy(0, " + b[0] + ", 1, " + b[1] + ", " + b[2] + ")", x.copy(0, b[0], 1, b[1], b[2]), ClashRocks.INDEX);
        }
    }

    private static void copyOverItself() {
        ClashRocks x = Due.strait("p30/2/2,p30/2/2,p30/2/2;P15");
        for (int way = 0; way < 2; way++) {
            x.sheet(0, 3, 4);
            paces(x, 0, 3, 0, 1, 2, 4, 5);
            due.is("copy", way == 0 ? x.copy(0, 0, 0, 1, 3) : x.copy(0, 1, 0, 0, 3), 3);
            // 1 1 2 4, or 2 4 5 5: a length of 1 takes 1 second by each.
            due.is("from 0", x.judged(0, 0, 0, 3, 0, 2), way == 0 ? 30 + 30 + 15 + 3 : 15 + 8 + 6 + 3);
            due.is("from 1", x.judged(0, 0, 0, 3, 1, 2), way == 0 ? 30 + 15 + 8 + 3 : 8 + 6 + 6 + 3);
        }
    }

    private static void openWater() {
        ClashRocks x = new ClashRocks();
        x.ship(0, 1, 1);
        x.sheet(0, 0, 2);
        due.is("judged behind the last item, no pair", x.judged(0, 7, 0, 0, 2, 2), 7);
        due.is("judged beyond, no pair", x.judged(0, 7, 0, 0, 3, 2), ClashRocks.INDEX);
        due.is("film behind the last item", x.film(7, 0, 0, 2), 0);
        due.is("film beyond", x.film(7, 0, 0, 3), ClashRocks.INDEX);
    }
}
