/** Promises 1 to 7, and what a new object answers. */
public final class PairsAndShipsTest {
    private static final Due due = new Due();

    public static void main(String[] args) {
        newObject();
        pair();
        phase();
        ship();
        told();
        openByKinds();
        due.end();
    }

    private static void newObject() {
        ClashRocks x = new ClashRocks();
        int[] wants = {0, 0, 0, ClashRocks.NONE, 0, 0, 0, 0};
        for (int what = 0; what < wants.length; what++) {
            due.is("new: count(" + what + ")", x.count(what), wants[what]);
        }
        due.is("new: seed(5)", x.seed(5), 1);
        due.is("new: undo()", x.undo(), ClashRocks.NONE);
        due.is("new: restore()", x.restore(), ClashRocks.NONE);
        for (int sheet = 0; sheet < 4; sheet++) {
            due.is("new: drop(" + sheet + ")", x.drop(sheet), ClashRocks.NULL);
        }
        due.is("new: strait()", x.strait(), -20);
        due.is("new: of(0, 0)", x.of(0, 0), ClashRocks.BAD);
        due.is("new: told(0, 0)", x.told(0, 0), ClashRocks.BAD);
        due.is("new: open(0, 0)", x.open(0, 0), ClashRocks.BAD);
    }

    private static void pair() {
        ClashRocks x = new ClashRocks();
        int[][] bad = {{-1, 1, 2, 1}, {4, 1, 2, 1}, {0, 0, 2, 1}, {0, 31, 2, 1}, {0, 1, 1, 1}, {0, 1, 25, 1},
            {0, 1, 2, 0}, {0, 1, 2, 3}, {0, 1, 24, 25}, {Integer.MIN_VALUE, 1, 2, 1}, {0, 1, Integer.MAX_VALUE, 1}};
        for (int[] b : bad) {
            due.is("pair, wrong", x.pair(b[0], b[1], b[2], b[3]), ClashRocks.BAD);
        }
        due.is("count(0)", x.count(0), 0);
        int[][] good = {{0, 1, 2, 1}, {1, 30, 24, 24}, {2, 5, 7, 3}, {3, 9, 2, 2}, {0, 2, 3, 3}, {1, 4, 5, 4}};
        for (int i = 0; i < good.length; i++) {
            int[] g = good[i];
            due.is("pair " + i, x.pair(g[0], g[1], g[2], g[3]), i);
        }
        due.is("pair, full", x.pair(0, 1, 2, 1), ClashRocks.FULL);
        due.is("pair, wrong ahead of full", x.pair(0, 1, 2, 3), ClashRocks.BAD);
        for (int i = 0; i < good.length; i++) {
            for (int what = 0; what < 4; what++) {
                due.is("of(" + i + ", " + what + ")", x.of(i, what), good[i][what]);
            }
            due.is("of(" + i + ", 4)", x.of(i, 4), 0);
        }
        due.is("of(6, 0)", x.of(6, 0), ClashRocks.BAD);
        due.is("of(-1, 0)", x.of(-1, 0), ClashRocks.BAD);
        due.is("of(0, 5)", x.of(0, 5), ClashRocks.BAD);
        due.is("of(0, -1)", x.of(0, -1), ClashRocks.BAD);
    }

    private static void phase() {
        ClashRocks x = new ClashRocks();
        x.pair(0, 1, 5, 2);
        due.is("phase(0, 4)", x.phase(0, 4), 0);
        due.is("phase(0, 5)", x.phase(0, 5), ClashRocks.BAD);
        due.is("phase(0, -1)", x.phase(0, -1), ClashRocks.BAD);
        due.is("phase(1, 0)", x.phase(1, 0), ClashRocks.BAD);
        due.is("phase(-1, 0)", x.phase(-1, 0), ClashRocks.BAD);
        due.is("of(0, 4)", x.of(0, 4), 4);
        due.is("phase(0, 1)", x.phase(0, 1), 4);
        due.is("of(0, 4)", x.of(0, 4), 1);
        due.is("phase(0, 0)", x.phase(0, 0), 1);
        due.is("of(0, 4)", x.of(0, 4), 0);
    }

    private static void ship() {
        ClashRocks x = new ClashRocks();
        int[][] bad = {{-1, 1, 1}, {4, 1, 1}, {0, 0, 1}, {0, 10, 1}, {0, 1, 0}, {0, 1, 6}};
        for (int[] b : bad) {
            due.is("ship, wrong", x.ship(b[0], b[1], b[2]), ClashRocks.BAD);
        }
        due.is("count(1)", x.count(1), 0);
        for (int i = 0; i < 5; i++) {
            due.is("ship " + i, x.ship(i % 4, i + 5, 5 - i), i);
        }
        due.is("ship, full", x.ship(0, 1, 1), ClashRocks.FULL);
        due.is("ship, wrong ahead of full", x.ship(0, 1, 6), ClashRocks.BAD);
        due.is("count(1)", x.count(1), 5);
    }

    private static void told() {
        ClashRocks x = new ClashRocks();
        int[][] wants = {{0, 3, 4, 1, 4, 3}, {1, 3, 4, 1, 2, 3}, {2, 3, 4, 4, 4, 3}, {3, 3, 4, 1, 2, 5}, {1, 9, 1, 1, 1, 9}};
        for (int i = 0; i < 5; i++) {
            x.ship(wants[i][0], wants[i][1], wants[i][2]);
        }
        for (int i = 0; i < 5; i++) {
            for (int what = 0; what < 6; what++) {
                due.is("told(" + i + ", " + what + ")", x.told(i, what), wants[i][what]);
            }
        }
        due.is("told(0, 6)", x.told(0, 6), ClashRocks.BAD);
        due.is("told(0, -1)", x.told(0, -1), ClashRocks.BAD);
        due.is("told(5, 0)", x.told(5, 0), ClashRocks.BAD);
        due.is("told(-1, 0)", x.told(-1, 0), ClashRocks.BAD);
    }

    private static void openByKinds() {
        ClashRocks x = new ClashRocks();
        for (int kind = 0; kind < 4; kind++) {
            x.pair(kind, 1, 5, 2);
            x.phase(kind, 1);
        }
        // Beat 5, opening 2, phase 1, from second 0 on.
        String[] wants = {"1000110001100011", "1100000011110000", "1011110111101111", "0100000001110000"};
        for (int kind = 0; kind < 4; kind++) {
            for (int t = 0; t < wants[kind].length(); t++) {
                due.is("open(" + kind + ", " + t + ")", x.open(kind, t), wants[kind].charAt(t) - '0');
            }
        }
        due.is("open(0, 99999)", x.open(0, 99999), 1);
        due.is("open(0, 100000)", x.open(0, 100000), ClashRocks.BAD);
        due.is("open(0, -1)", x.open(0, -1), ClashRocks.BAD);
        due.is("open(4, 0)", x.open(4, 0), ClashRocks.BAD);
        due.is("open(-1, 0)", x.open(-1, 0), ClashRocks.BAD);
    }
}
