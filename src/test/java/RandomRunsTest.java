import java.lang.reflect.Method;
import java.util.ArrayList;
import java.util.List;
import java.util.Random;

/** Runs of calls by lots, the class against the model; the lots are always the same. */
public final class RandomRunsTest {
    private static final int RUNS = 250;
    private static final Due due = new Due();
    private static final Random random = new Random(20261117);

    public static void main(String[] args) throws ReflectiveOperationException {
        List<Method> calls = Calls.all();
        for (int run = 0; run < RUNS && due.isAllWell(); run++) {
            run(run, calls);
        }
        due.end();
    }

    private static void run(int run, List<Method> calls) throws ReflectiveOperationException {
        ClashRocks x = new ClashRocks();
        Model model = new Model();
        List<String> told = new ArrayList<>();
        int wild = run % 5 == 0 ? 4 : 40;
        // Few pairs keep the model's trying of everything short.
        int mostPairs = run % 25 == 0 ? 6 : 1 + random.nextInt(4);
        for (int n = 0; n < 512 && due.isAllWell(); n++) {
            int lot = random.nextInt(calls.size() + 14);
            if (n % 128 == 3 || lot == calls.size()) {
                type(x, model, told, text(mostPairs));
            } else if (lot > calls.size() + 8) {
                ask(x, model, told, Calls.named(ClashRocks.class, "pass"), random.nextInt(4));
            } else if (lot > calls.size() + 4) {
                ask(x, model, told, Calls.named(ClashRocks.class, "setOut"), random.nextInt(3));
            } else if (lot > calls.size()) {
                ask(x, model, told, Calls.named(ClashRocks.class, "undo"));
            } else {
                Method call = calls.get(lot);
                boolean isDear = call.getName().equals("sure") || call.getName().equals("stones");
                boolean isOneTooMany = call.getName().equals("pair") && model.count(0) >= mostPairs && random.nextInt(20) > 0;
                if (isOneTooMany || isDear && (model.count(0) > 3 || random.nextInt(4) > 0)) {
                    continue;
                }
                ask(x, model, told, call, arguments(call, model, wild));
            }
            for (int what = 0; what < 8; what++) {
                due.is("run " + run + ", count(" + what + ")", x.count(what), model.count(what));
            }
        }
        if (!due.isAllWell()) {
            System.out.println("run " + run + ": " + told);
        }
    }

    private static void ask(ClashRocks x, Model model, List<String> told, Method call, Object... arguments)
            throws ReflectiveOperationException {
        String name = call.getName() + java.util.Arrays.toString(arguments);
        told.add(name);
        Calls.ask(due, name, Calls.wanted(model, call, arguments), x, call, arguments);
    }

    private static void type(ClashRocks x, Model model, List<String> told, String text) {
        told.add("strait of \"" + text + "\"");
        for (int i = 0; i < text.length(); i++) {
            due.is("type", x.type(text.charAt(i)), model.type(text.charAt(i)));
        }
        due.is("strait of \"" + text + "\"", x.strait(), model.strait());
    }

    private static int upTo(int least, int most) {
        return least + random.nextInt(most - least + 1);
    }

    private static String text(int mostPairs) {
        StringBuilder text = new StringBuilder();
        int pairs = upTo(1, mostPairs);
        for (int k = 0; k < pairs; k++) {
            int beat = upTo(2, random.nextInt(3) == 0 ? 24 : 8);
            int opening = upTo((beat + 1) / 2, beat);
            text.append(k == 0 ? "" : ",").append("pstf".charAt(random.nextInt(4))).append(upTo(1, 12));
            text.append('/').append(beat).append('/').append(opening);
            text.append(random.nextBoolean() ? "" : "+" + random.nextInt(beat));
        }
        int ships = random.nextInt(6);
        for (int k = 0; k < ships; k++) {
            text.append(k == 0 ? ";" : ",").append("PTBL".charAt(random.nextInt(4))).append(upTo(1, 5)).append(upTo(1, 5));
        }
        for (int spoils = random.nextInt(3) == 0 ? upTo(1, 3) : 0; spoils > 0; spoils--) {
            int at = random.nextInt(text.length());
            char letter = " 0123456789pstfPTBL/+,;x".charAt(random.nextInt(24));
            if (random.nextBoolean()) {
                text.setCharAt(at, letter);
            } else {
                text.insert(at, random.nextBoolean() ? letter : ' ');
            }
        }
        return text.toString();
    }

    private static Object[] arguments(Method call, Model model, int wild) {
        Object[] arguments = new Object[call.getParameterCount()];
        int pairs = model.count(0);
        int ships = model.count(1);
        int[][] ranges = ranges(call.getName(), pairs, ships);
        for (int k = 0; k < arguments.length; k++) {
            boolean isLong = call.getParameterTypes()[k] == long.class;
            int tame = upTo(ranges[k][0], Math.max(ranges[k][0], ranges[k][1]));
            if (random.nextInt(wild) == 0) {
                int[] some = {ranges[k][0] - 1, ranges[k][1] + 1, -1, 0, 17, random.nextInt(), Integer.MIN_VALUE,
                    Integer.MAX_VALUE, upTo(-20, 20), ranges[k][1], ranges[k][0]};
                tame = some[random.nextInt(some.length)];
            }
            if (isLong) {
                arguments[k] = random.nextInt(4) == 0 ? (long) tame + (1L << 8 * upTo(1, 7)) : (long) tame;
            } else {
                arguments[k] = tame;
            }
        }
        return arguments;
    }

    private static int[][] ranges(String name, int pairs, int ships) {
        int[] pair = {0, pairs - 1};
        int[] ship = {0, ships - 1};
        int[] second = {0, random.nextInt(4) == 0 ? 9999 : 80};
        int[] sheet = {0, 1};
        int[] lane = {1, 1 + random.nextInt(2) * random.nextInt(2)};
        int[] place = {0, 3};
        switch (name) {
            case "pair": return new int[][] {{0, 3}, {1, 30}, {2, 24}, {1, 12}};
            case "phase": return new int[][] {pair, {0, 6}};
            case "ship": return new int[][] {{0, 3}, {1, 9}, {1, 5}};
            case "of": return new int[][] {pair, {0, 4}};
            case "told": return new int[][] {ship, {0, 5}};
            case "open": return new int[][] {pair, {0, 99999}};
            case "type": return new int[][] {{32, 126}};
            case "count": return new int[][] {{0, 7}};
            case "setOut": return new int[][] {ship};
            case "idle": return new int[][] {{1, 99}};
            case "pass": return new int[][] {{1, 4}};
            case "seed": return new int[][] {{0, Integer.MAX_VALUE - 1}};
            case "lots": return new int[][] {ship, {1, 99}};
            case "soonest": return new int[][] {ship, second, {-2, pairs - 1}};
            case "full": return new int[][] {ship, second, {0, 2}};
            case "fog": return new int[][] {ship, second, {0, 1}};
            case "sure": return new int[][] {ship, second};
            case "stones": return new int[][] {ship, second, {-1, pairs - 1}};
            case "convoy": return new int[][] {pair, second, {0, (1 << ships) - 1}};
            case "rudder": return new int[][] {ship, second, {0, 999}};
            case "worth": return new int[][] {ship, pair};
            case "look": return new int[][] {second, {0, 1}};
            case "fits": return new int[][] {{0, 1}};
            case "foretell": return new int[][] {second};
            case "next": return new int[][] {second, {0, 1}};
            case "judged": return new int[][] {ship, second, sheet, lane, place, {0, 2}};
            case "film": return new int[][] {{0, 99999}, sheet, lane, place};
            case "sheet": return new int[][] {{0, 2}, lane, {4, 16}};
            case "drop": return new int[][] {{0, 9}};
            case "item": return new int[][] {sheet, lane, {0, 9}, {1, 3}};
            case "copy": return new int[][] {sheet, place, sheet, place, {0, 6}};
            default: return new int[0][];
        }
    }
}
