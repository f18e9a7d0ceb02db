import java.lang.reflect.Method;
import java.util.ArrayList;
import java.util.Arrays;
import java.util.List;

/**
 * Every call, in several states, with numbers within, at and far beyond all limits in every place: the answer is the
 * model's, nothing is thrown, and where it is below 0 the object then is as one that was never asked.
 */
public final class RefusedTest extends Edges {
    /** Open water; some of all; all is full; no ship, nothing fits, and an image of other waters. */
    private static final String[] STATES = {
        "",
        "pair 0 5 6 3, phase 0 1, pair 1 7 5 3, ship 0 3 2, ship 1 1 4, ship 2 2 3, idle 3, setOut 1, image, look 5 1, "
            + "sheet 0 0 4, item 0 0 1 2, sheet 1 3 16, item 1 3 15 5, type 112, seed 5, idle 1",
        "pair 0 9 24 1, pair 0 1 2 1, pair 3 1 2 1, pair 0 1 3 1, pair 2 1 3 1, pair 0 1 2 1, "
            + "ship 3 9 1, ship 0 9 1, ship 2 9 5, ship 1 9 1, ship 0 1 1, 101 idle 99, setOut 4, 4 look 0 1, 8 look 3 0, "
            + "sheet 0 0 16, sheet 1 1 16, sheet 2 2 16, sheet 3 3 16, item 3 3 0 1, 100 type 112, image",
        "pair 2 3 4 2, phase 0 1, ship 0 1 1, idle 9, image, type 115, type 51, type 47, type 52, type 47, type 50, strait, "
            + "pair 3 3 4 4, look 7 1, look 7 0, sheet 3 1 0, sheet 0 1 1",
    };
    /** For calls of 1, 2, 3 .. places, since all numbers are tried with all others. */
    private static final int[][] NUMBERS = {
        {},
        {MIN, MIN + 1, -100, -21, -4, -3, -2, -1, 0, 1, 2, 3, 4, 5, 6, 7, 8, 16, 17, 31, 32, 59, 60, 99, 100, 126, 127, 255, 256,
            999, 1000, 9999, 10000, 65535, 99999, 100000, MAX - 1, MAX},
        {MIN, -3, -2, -1, 0, 1, 2, 3, 4, 5, 6, 30, 31, 99, 100, 9999, 10000, 99999, 100000, MAX},
        {MIN, -3, -2, -1, 0, 1, 4, 5, 6, 16, 17, 999, 1000, 9999, 10000, MAX},
        {MIN, -1, 0, 1, 2, 4, 15, 24, 31, 100000, MAX},
        {MIN, -1, 0, 1, 3, 4, 16, MAX},
        {MIN, -1, 0, 1, 3, 10000, MAX},
    };
    /** So few that with what made the state, and what is asked behind them, an object has at most 512 calls. */
    private static final int REFUSED_AT_ONCE = 16;

    public static void main(String[] args) throws ReflectiveOperationException {
        terms("What is refused changes nothing, but as told.");
        List<Method> calls = Calls.all();
        for (int state = 0; state < STATES.length; state++) {
            int[] untouched = told(made(state));
            for (Method call : calls) {
                allNumbers(call, state, untouched);
            }
        }
        due.end();
    }

    private static void allNumbers(Method call, int state, int[] untouched) throws ReflectiveOperationException {
        int all = (int) Math.pow(NUMBERS[call.getParameterCount()].length, call.getParameterCount());
        Model model = new Model();
        run(model, STATES[state]);
        ClashRocks x = made(state);
        int refused = 0;
        for (int lot = 0; lot < all; lot++) {
            Object[] arguments = arguments(call, lot);
            String name = "state " + state + ", " + call.getName() + Arrays.toString(arguments);
            int want = Calls.wanted(model, call, arguments);
            if (want >= 0) {
                Calls.ask(due, name, want, made(state), call, arguments);
                model = new Model();
                run(model, STATES[state]);
            } else {
                Calls.ask(due, name, want, x, call, arguments);
                refused++;
            }
            if (refused == REFUSED_AT_ONCE || lot == all - 1) {
                // A fault takes the tape with it, as told.
                if (!call.getName().equals("strait")) {
                    due.is(name + ": the first that is not as it was", Arrays.mismatch(told(x), untouched), -1);
                }
                x = made(state);
                refused = 0;
            }
        }
    }

    private static Object[] arguments(Method call, int lot) {
        int[] numbers = NUMBERS[call.getParameterCount()];
        Object[] arguments = new Object[call.getParameterCount()];
        int left = lot;
        for (int k = 0; k < arguments.length; k++) {
            arguments[k] = boxed(call.getParameterTypes()[k], numbers[left % numbers.length]);
            left /= numbers.length;
        }
        return arguments;
    }

    private static Object boxed(Class<?> type, int number) {
        if (type == long.class) {
            return (long) number;
        }
        return number;
    }

    private static ClashRocks made(int state) throws ReflectiveOperationException {
        ClashRocks x = new ClashRocks();
        run(x, STATES[state]);
        return x;
    }

    /** Calls with , between: perhaps how often, a name, its numbers. */
    private static void run(Object x, String calls) throws ReflectiveOperationException {
        for (String call : calls.isEmpty() ? new String[0] : calls.split(", ")) {
            String[] words = call.split(" ");
            boolean isRepeated = Character.isDigit(words[0].charAt(0));
            int times = isRepeated ? Integer.parseInt(words[0]) : 1;
            int name = isRepeated ? 1 : 0;
            Method method = Calls.named(x.getClass(), words[name]);
            Object[] arguments = new Object[words.length - name - 1];
            for (int k = 0; k < arguments.length; k++) {
                arguments[k] = boxed(method.getParameterTypes()[k], Integer.parseInt(words[name + 1 + k]));
            }
            for (int k = 0; k < times; k++) {
                method.invoke(x, arguments);
            }
        }
    }

    /** All that an object tells of itself, its image and its sheets; it is used up then. */
    private static int[] told(ClashRocks x) {
        List<Integer> told = new ArrayList<>();
        tellWaters(x, told);
        for (int undone = 0; undone >= 0;) {
            undone = x.undo();
            told.add(undone);
            for (int what = 2; what < 6; what++) {
                told.add(x.count(what));
            }
        }
        told.add(x.strait());
        told.add(x.restore());
        tellWaters(x, told);
        // Paces 1 to 5 are told by when they are behind a reach of 30, all other items as no paces.
        Due.read(x, "p30/2/2;P15");
        for (int sheet = 0; sheet < 4; sheet++) {
            for (int lane = 0; lane < 4; lane++) {
                int first = x.judged(0, 0, sheet, lane, 0, 2);
                told.add(first);
                for (int i = 1; i < 16 && first != NULL && first != CAST && first != INDEX; i++) {
                    told.add(x.judged(0, 0, sheet, lane, i, 2));
                }
            }
        }
        return told.stream().mapToInt(Integer::intValue).toArray();
    }

    private static void tellWaters(ClashRocks x, List<Integer> told) {
        int first = told.size();
        for (int what = 0; what < 8; what++) {
            told.add(x.count(what));
        }
        for (int pair = 0; pair < told.get(first); pair++) {
            for (int what = 0; what < 5; what++) {
                told.add(x.of(pair, what));
            }
        }
        for (int ship = 0; ship < told.get(first + 1); ship++) {
            for (int what = 0; what < 3; what++) {
                told.add(x.told(ship, what));
            }
        }
        told.add(x.fits(0));
        told.add(x.fits(1));
        told.add(x.seed(8));
    }
}
