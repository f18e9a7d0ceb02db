import java.util.function.IntUnaryOperator;

/**
 * What the tests of the document's edges share. Each of their tests begins with the sentence that it stands for, by
 * promise() or terms(); EdgeIndexTest looks them up in the document, so each is quoted there letter by letter.
 */
abstract class Edges {
    /** As the document tells them, not as the class does. */
    static final int BAD = -1, NOT = -2, FULL = -3, NONE = -4, NULL = -11, CAST = -12, INDEX = -13, SIZE = -14;
    static final int MIN = Integer.MIN_VALUE, MAX = Integer.MAX_VALUE;
    static final Due due = new Due();

    static void promise(int number, String sentence) {
        due.by(" (promise " + number + ": \"" + sentence + "\")");
    }

    static void terms(String sentence) {
        due.by(" (terms: \"" + sentence + "\")");
    }

    /** A number that may be least to most is BAD just beyond both ends, and far off. */
    static void badBeyond(String call, int least, int most, IntUnaryOperator asked) {
        for (int v : new int[] {least - 1, most + 1, MIN, MAX}) {
            due.is(call + " with " + v, asked.applyAsInt(v), BAD);
        }
    }

    /** The answers for 0, 1, 2 and so on. */
    static void row(String call, IntUnaryOperator asked, int... wants) {
        for (int v = 0; v < wants.length; v++) {
            due.is(call + " with " + v, asked.applyAsInt(v), wants[v]);
        }
    }

    /** Whether a pair is open in the seconds from one on, each as 1 or 0. */
    static void opens(ClashRocks x, int pair, int from, String wants) {
        for (int k = 0; k < wants.length(); k++) {
            due.is("open(" + pair + ", " + (from + k) + ")", x.open(pair, from + k), wants.charAt(k) - '0');
        }
    }

    /** The clock goes on to a second that is at most 9999. */
    static void idleTo(ClashRocks x, int second) {
        for (int left = second - x.count(2); left > 0; left = second - x.count(2)) {
            x.idle(Math.min(left, 99));
        }
    }
}
