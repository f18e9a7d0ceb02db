/** Promises 30 and 31. */
public final class ImageTest {
    private static final Due due = new Due();

    public static void main(String[] args) {
        allButSheetsAndTape();
        emptyImage();
        due.end();
    }

    private static void allButSheetsAndTape() {
        ClashRocks x = Due.strait("p4/6/3+2,s6/5/3;P31,L25");
        due.is("restore()", x.restore(), ClashRocks.NONE);
        x.idle(9);
        x.setOut(0);
        x.look(5, 1);
        x.look(6, 0);
        x.seed(123);
        x.sheet(0, 0, 3);
        x.type('p');
        due.is("image()", x.image(), 1);
        for (int round = 0; round < 2; round++) {
            change(x);
            due.is("restore()", x.restore(), 1);
            asKept(x);
        }
        due.is("drop(0), which the image leaves alone", x.drop(0), ClashRocks.NULL);
        due.is("drop(1)", x.drop(1), 5);
        due.is("undo()", x.undo(), 1);
        due.is("image(), a newer one", x.image(), 1);
        due.is("undo()", x.undo(), 0);
        due.is("restore()", x.restore(), 1);
        due.is("count(6)", x.count(6), 1);
        due.is("count(2)", x.count(2), 9);
        due.is("count(3)", x.count(3), ClashRocks.NONE);
        due.is("undo()", x.undo(), 0);
        due.is("count(2)", x.count(2), 0);
        due.is("undo()", x.undo(), ClashRocks.NONE);
    }

    private static void change(ClashRocks x) {
        x.undo();
        x.idle(50);
        x.idle(51);
        x.idle(52);
        x.phase(0, 1);
        x.strait();
        Due.read(x, "t9/9/9;B11,B12,B13");
        x.setOut(2);
        x.forget();
        x.look(1, 0);
        x.look(2, 1);
        x.seed(55);
        x.drop(0);
        x.sheet(1, 3, 5);
        x.type('t');
        x.type('9');
    }

    private static void asKept(ClashRocks x) {
        int[] wants = {2, 2, 9, 0, 0, 0, 2, 2};
        for (int what = 0; what < wants.length; what++) {
            due.is("count(" + what + ")", x.count(what), wants[what]);
        }
        int[][] pairs = {{0, 4, 6, 3, 2}, {1, 6, 5, 3, 0}};
        for (int i = 0; i < 2; i++) {
            for (int what = 0; what < 5; what++) {
                due.is("of(" + i + ", " + what + ")", x.of(i, what), pairs[i][what]);
            }
        }
        int[][] ships = {{0, 3, 1}, {3, 2, 5}};
        for (int i = 0; i < 2; i++) {
            for (int what = 0; what < 3; what++) {
                due.is("told(" + i + ", " + what + ")", x.told(i, what), ships[i][what]);
            }
        }
        due.is("foretell(5)", x.foretell(5), 1);
        due.is("foretell(6)", x.foretell(6), 0);
        due.is("seed(123)", x.seed(123), 123);
        due.is("strait(), the tape stays as it is now", x.strait(), -22);
    }

    private static void emptyImage() {
        ClashRocks x = new ClashRocks();
        x.image();
        Due.read(x, "p4/6/3;P31");
        x.setOut(0);
        x.idle(3);
        x.image();
        x.image();
        due.is("restore()", x.restore(), 1);
        due.is("count(2)", x.count(2), 3);
        due.is("pass(1)", x.pass(1), 1);
        due.is("restore()", x.restore(), 1);
        due.is("count(4)", x.count(4), 0);
        due.is("count(5)", x.count(5), 0);
    }
}
