/** Promises 25 to 29. */
public final class LooksTest {
    private static final Due due = new Due();

    public static void main(String[] args) {
        look();
        fits();
        foretell();
        next();
        due.end();
    }

    private static void look() {
        ClashRocks x = new ClashRocks();
        due.is("look(-1, 0)", x.look(-1, 0), ClashRocks.BAD);
        due.is("look(10000, 0)", x.look(10000, 0), ClashRocks.BAD);
        due.is("look(0, 2)", x.look(0, 2), ClashRocks.BAD);
        due.is("look(0, -1)", x.look(0, -1), ClashRocks.BAD);
        for (int i = 1; i <= 12; i++) {
            due.is("look(9999, 1)", x.look(9999, 1), i);
        }
        due.is("look(9999, 1), full", x.look(9999, 1), ClashRocks.FULL);
        due.is("look(10000, 1), wrong ahead of full", x.look(10000, 1), ClashRocks.BAD);
        due.is("fits(0)", x.fits(0), 2300);
        due.is("forget()", x.forget(), 12);
        due.is("forget()", x.forget(), 0);
        due.is("fits(0)", x.fits(0), 4600);
        due.is("look(0, 0)", x.look(0, 0), 1);
    }

    private static void fits() {
        ClashRocks x = new ClashRocks();
        due.is("fits(2)", x.fits(2), ClashRocks.BAD);
        due.is("fits(-1)", x.fits(-1), ClashRocks.BAD);
        x.look(0, 0);
        due.is("fits(0)", x.fits(0), 2300);
        due.is("fits(1)", x.fits(1), 20101);
        x.forget();
        // Open in 0 .. 22, shut in 23 and 24: 24 is a beat too long for that, since 24 is 0 of it.
        x.look(0, 1);
        x.look(23, 0);
        x.look(24, 0);
        due.is("fits(0)", x.fits(0), naiveFits(new int[][] {{0, 1}, {23, 0}, {24, 0}}));
        x.forget();
        // Every other second, and a seventh of a beat of 7 that can't be both.
        x.look(0, 1);
        x.look(2, 1);
        x.look(1, 0);
        x.look(3, 0);
        x.look(5, 0);
        x.look(7, 0);
        x.look(9, 0);
        x.look(11, 0);
        x.look(13, 0);
        due.is("fits(0)", x.fits(0), naiveFits(new int[][] {{0, 1}, {2, 1}, {1, 0}, {3, 0}, {5, 0}, {7, 0}, {9, 0},
            {11, 0}, {13, 0}}));
        due.is("fits(1)", x.fits(1), 20100);
        x.look(4, 1);
        x.look(4, 0);
        due.is("fits(0)", x.fits(0), 0);
        due.is("fits(1)", x.fits(1), ClashRocks.NONE);
        due.is("fits(2)", x.fits(2), ClashRocks.BAD);
    }

    private static int naiveFits(int[][] looks) {
        int fits = 0;
        for (int beat = 2; beat <= 24; beat++) {
            for (int opening = 1; opening < beat; opening++) {
                for (int phase = 0; phase < beat; phase++) {
                    boolean isFit = true;
                    for (int[] look : looks) {
                        isFit &= ((look[0] + phase) % beat < opening) == (look[1] == 1);
                    }
                    fits += isFit ? 1 : 0;
                }
            }
        }
        return fits;
    }

    private static void foretell() {
        ClashRocks x = new ClashRocks();
        due.is("foretell(-1)", x.foretell(-1), ClashRocks.BAD);
        due.is("foretell(10000)", x.foretell(10000), ClashRocks.BAD);
        due.is("foretell(9999)", x.foretell(9999), 2);
        due.is("foretell(0)", x.foretell(0), 2);
        x.look(9999, 1);
        x.look(9998, 0);
        due.is("foretell(9999)", x.foretell(9999), 1);
        due.is("foretell(9998)", x.foretell(9998), 0);
        due.is("foretell(9997)", x.foretell(9997), 2);
        x.look(9998, 1);
        due.is("foretell(9998)", x.foretell(9998), ClashRocks.NONE);
        due.is("foretell(10000), wrong ahead of none", x.foretell(10000), ClashRocks.BAD);
    }

    private static void next() {
        ClashRocks x = new ClashRocks();
        due.is("next(-1, 0)", x.next(-1, 0), ClashRocks.BAD);
        due.is("next(10000, 0)", x.next(10000, 0), ClashRocks.BAD);
        due.is("next(0, 2)", x.next(0, 2), ClashRocks.BAD);
        due.is("next(0, -1)", x.next(0, -1), ClashRocks.BAD);
        due.is("next(9999, 0)", x.next(9999, 0), 9999);
        due.is("next(9999, 1)", x.next(9999, 1), 2300);
        x.look(99, 1);
        due.is("next(99, 0), not what is known", x.next(99, 0) > 99 ? 1 : 0, 1);
        due.is("next(129, 0), a second on", x.next(129, 0), 130);
        x.forget();
        x.look(100, 1);
        x.look(101, 0);
        x.look(102, 0);
        for (int from : new int[] {0, 77, 100, 9999}) {
            int best = from;
            int least = Integer.MAX_VALUE;
            for (int t = from; t < from + 60; t++) {
                int[][] known = {{100, 1}, {101, 0}, {102, 0}};
                int open = naiveFits(new int[][] {known[0], known[1], known[2], {t, 1}});
                int worst = Math.max(open, naiveFits(known) - open);
                if (worst < least) {
                    least = worst;
                    best = t;
                }
            }
            due.is("next(" + from + ", 0)", x.next(from, 0), best);
            due.is("next(" + from + ", 1)", x.next(from, 1), least);
        }
        x.look(100, 0);
        due.is("next(0, 0)", x.next(0, 0), ClashRocks.NONE);
        due.is("next(0, 1)", x.next(0, 1), ClashRocks.NONE);
        due.is("next(0, 2), wrong ahead of none", x.next(0, 2), ClashRocks.BAD);
    }
}
