import java.lang.reflect.InvocationTargetException;
import java.lang.reflect.Method;
import java.util.ArrayList;
import java.util.Arrays;
import java.util.HashMap;
import java.util.List;
import java.util.Map;
import java.util.Random;

/** Runs of 512 calls by fixed seeds: each answer must be the Model's, and no unit may get lost or come from nothing. */
public final class RandomRunsTest {
    private static final int RUNS = 300;
    private static final int CALLS = 512;
    private static final int SHOWN = 12;

    private static final String[] CALL_NAMES = {"stock", "sell", "unsell", "broken", "reserve", "pick", "tick", "give",
        "ask", "counted", "sync", "crash", "back", "deliver", "drop", "twice", "slot", "has", "news", "pair", "total",
        "look"};
    /** How often each call is made, by kinds of runs: mixed, much on the net, many crashes, a full net, quiet. */
    private static final int[][] WEIGHTS = {
        {4, 6, 4, 4, 8, 5, 8, 10, 6, 2, 3, 2, 4, 30, 4, 4, 4, 4, 3, 4, 4, 4},
        {6, 2, 2, 1, 2, 1, 6, 25, 8, 1, 1, 1, 2, 60, 6, 8, 3, 2, 2, 4, 3, 3},
        {6, 8, 4, 3, 8, 6, 8, 10, 4, 3, 6, 12, 24, 40, 3, 3, 2, 3, 3, 3, 3, 3},
        {4, 3, 2, 2, 4, 2, 14, 14, 6, 1, 1, 1, 3, 12, 1, 8, 6, 2, 2, 3, 3, 4},
        {3, 1, 1, 0, 0, 0, 14, 2, 2, 0, 0, 0, 1, 90, 0, 1, 1, 1, 3, 1, 2, 8}};
    private static final int[] WRONG = {-1, 0, 4, 5, 6, 24, 31, 101, 1000001, Integer.MIN_VALUE, Integer.MAX_VALUE};

    private static final Map<String, Method> METHODS = new HashMap<>();

    public static void main(String[] args) {
        int asked = 0;
        int calm = 0;
        for (int seed = 0; seed < RUNS; seed++) {
            Random random = new Random(seed);
            int n = random.nextInt(20) == 0 ? random.nextInt(12) - 3 : 2 + seed % 4;
            calm += run(seed, n, WEIGHTS[seed / 4 % WEIGHTS.length], random);
            asked += CALLS;
        }
        System.out.println(asked + " calls in " + RUNS + " runs, " + calm + " calm moments, all as due");
        if (calm == 0) {
            System.out.println("no run ever came to rest, so look(3) was not tried");
            System.exit(1);
        }
    }

    private static int run(int seed, int n, int[] weights, Random random) {
        PantryMarket market = new PantryMarket(n);
        Model model = new Model(n);
        List<String> done = new ArrayList<>();
        int calm = 0;
        for (int k = 0; k < CALLS; k++) {
            String name = CALL_NAMES[draw(weights, random)];
            Object[] arguments = arguments(name, model, random);
            String want = call(model, name, arguments);
            compare(seed, done, call(market, name, arguments), want, text(name, arguments));
            String parted = partedUnits(market);
            compare(seed, done, parted, "none", "units lost or from nothing after " + text(name, arguments));
            if (k % 8 == 0 || k == CALLS - 1) {
                compareAll(seed, done, market, model);
            }
            calm += market.look(3);
        }
        return calm;
    }

    private static String partedUnits(PantryMarket market) {
        for (int article = 0; article < 4; article++) {
            if (market.total(article, 1) != market.total(article, 2)) {
                return "article " + article;
            }
        }
        return "none";
    }

    private static void compareAll(int seed, List<String> done, PantryMarket market, Model model) {
        for (int a = 0; a < 24; a++) {
            for (int b = 0; b < 6; b++) {
                one(seed, done, market, model, "slot", a, b);
            }
            one(seed, done, market, model, "look", a);
        }
        for (int till = 0; till < 5; till++) {
            for (int b = 0; b < 5; b++) {
                for (int w = 0; w < 4; w++) {
                    one(seed, done, market, model, "has", till, b, w);
                    one(seed, done, market, model, "news", till, b, w);
                    one(seed, done, market, model, "pair", till, b, w);
                }
                one(seed, done, market, model, "total", till, b);
            }
        }
    }

    private static void one(int seed, List<String> done, PantryMarket market, Model model, String name,
            Object... args) {
        String want = call(model, name, args);
        String got = call(market, name, args);
        if (!got.equals(want)) {
            compare(seed, done, got, want, text(name, args));
        }
    }

    private static void compare(int seed, List<String> done, String got, String want, String what) {
        if (!got.equals(want)) {
            for (int k = Math.max(0, done.size() - SHOWN); k < done.size(); k++) {
                System.out.println("  " + done.get(k));
            }
            System.out.println("seed " + seed + ": " + what + " answered " + got + ", due is " + want);
            System.exit(1);
        }
        done.add(what + " = " + got);
    }

    private static int draw(int[] weights, Random random) {
        int sum = 0;
        for (int weight : weights) {
            sum += weight;
        }
        int at = random.nextInt(sum);
        int k = 0;
        while (at >= weights[k]) {
            at -= weights[k++];
        }
        return k;
    }

    private static Object[] arguments(String name, Model model, Random random) {
        Object[] all = goodArguments(name, model, random);
        if (random.nextInt(25) == 0) {
            all[random.nextInt(all.length)] = WRONG[random.nextInt(WRONG.length)];
        }
        return all;
    }

    private static Object[] goodArguments(String name, Model model, Random random) {
        int till = random.nextInt(model.look(0));
        int other = random.nextInt(model.look(0));
        int article = random.nextInt(3) == 0 ? random.nextInt(4) : 0;
        int units = units(model.has(till, article, 0), random);
        int slot = random.nextInt(3) == 0 ? random.nextInt(model.look(1) + 1) : 0;
        return switch (name) {
            case "stock", "counted" -> new Object[] {article, units};
            case "sell", "unsell", "broken", "ask" -> new Object[] {till, article, units};
            case "reserve" -> new Object[] {till, article, units, 1 + random.nextInt(random.nextBoolean() ? 6 : 100)};
            case "pick" -> new Object[] {till, random.nextInt(12)};
            case "tick" -> new Object[] {till, random.nextInt(random.nextInt(10) == 0 ? 31 : 4)};
            case "give" -> new Object[] {till, other, article, units};
            case "sync", "crash", "back" -> new Object[] {till};
            case "deliver", "drop", "twice" -> new Object[] {slot};
            case "slot" -> new Object[] {slot, random.nextInt(6)};
            case "has" -> new Object[] {till, article, random.nextInt(4)};
            case "news" -> new Object[] {till, other, article};
            case "pair" -> new Object[] {till, other, random.nextInt(4)};
            case "total" -> new Object[] {article, random.nextInt(3)};
            default -> new Object[] {random.nextInt(16)};
        };
    }

    /** Often the share itself or one unit more, for there a till begins to refuse. */
    private static int units(int share, Random random) {
        return switch (random.nextInt(12)) {
            case 0 -> 1000000;
            case 1 -> share;
            case 2 -> share + 1;
            default -> 1 + random.nextInt(random.nextBoolean() ? 20 : 1000);
        };
    }

    private static String text(String name, Object[] arguments) {
        return name + Arrays.toString(arguments);
    }

    private static String call(Object target, String name, Object... arguments) {
        String key = target.getClass().getName() + "." + name;
        Method method = METHODS.get(key);
        try {
            if (method == null) {
                Class<?>[] types = new Class<?>[arguments.length];
                Arrays.fill(types, int.class);
                method = target.getClass().getMethod(name, types);
                METHODS.put(key, method);
            }
            return String.valueOf(method.invoke(target, arguments));
        } catch (InvocationTargetException e) {
            return "throws." + e.getCause().getClass().getSimpleName();
        } catch (ReflectiveOperationException e) {
            throw new IllegalStateException(e);
        }
    }
}
