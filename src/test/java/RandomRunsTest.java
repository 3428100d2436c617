import java.util.Random;

/** Runs of 512 calls by fixed seeds: each answer must be the Model's, and no unit may get lost or come from nothing. */
public final class RandomRunsTest {
    private static final int RUNS = 300;
    private static final int CALLS = 512;

    /** How often each call is made, by kinds of runs: mixed, much on the net, many crashes, a full net, quiet. */
    private static final int[][] WEIGHTS = {
        {4, 6, 4, 4, 8, 5, 8, 10, 6, 2, 3, 2, 4, 30, 4, 4, 4, 4, 3, 4, 4, 4},
        {6, 2, 2, 1, 2, 1, 6, 25, 8, 1, 1, 1, 2, 60, 6, 8, 3, 2, 2, 4, 3, 3},
        {6, 8, 4, 3, 8, 6, 8, 10, 4, 3, 6, 12, 24, 40, 3, 3, 2, 3, 3, 3, 3, 3},
        {4, 3, 2, 2, 4, 2, 14, 14, 6, 1, 1, 1, 3, 12, 1, 8, 6, 2, 2, 3, 3, 4},
        {3, 1, 1, 0, 0, 0, 14, 2, 2, 0, 0, 0, 1, 90, 0, 1, 1, 1, 3, 1, 2, 8}};
    private static final int[] WRONG = {-1, 0, 4, 5, 6, 24, 31, 101, 1000001, Integer.MIN_VALUE, Integer.MAX_VALUE};

    /** With an argument it makes so many runs instead. */
    public static void main(String[] args) {
        int runs = args.length == 0 ? RUNS : Integer.parseInt(args[0]);
        int calm = 0;
        for (int seed = 0; seed < runs; seed++) {
            Random random = new Random(seed);
            int n = random.nextInt(20) == 0 ? random.nextInt(12) - 3 : 2 + seed % 4;
            calm += run(new Twins("seed " + seed, n), WEIGHTS[seed / 4 % WEIGHTS.length], random);
        }
        System.out.println(runs * CALLS + " calls in " + runs + " runs, " + calm + " calm moments, all as due");
        if (calm == 0) {
            System.out.println("no run ever came to rest, so look(3) was not tried");
            System.exit(1);
        }
    }

    private static int run(Twins twins, int[] weights, Random random) {
        int calm = 0;
        for (int k = 0; k < CALLS; k++) {
            String name = Twins.CALL_NAMES[draw(weights, random)];
            twins.call(name, arguments(name, twins.model, random));
            if (k % 16 == 0 || k == CALLS - 1) {
                twins.compareAll();
            }
            calm += twins.atRest() ? 1 : 0;
        }
        return calm;
    }

    private static int draw(int[] weights, Random random) {
        int sum = 0;
        for (int weight : weights) {
            sum += weight;
        }
        int at = random.nextInt(sum);
        int k = 0;
        while (at >= weights[k]) {
            at -= weights[k++];
        }
        return k;
    }

    private static Object[] arguments(String name, Model model, Random random) {
        Object[] all = goodArguments(name, model, random);
        if (random.nextInt(25) == 0) {
            all[random.nextInt(all.length)] = WRONG[random.nextInt(WRONG.length)];
        }
        return all;
    }

    private static Object[] goodArguments(String name, Model model, Random random) {
        int till = random.nextInt(model.look(0));
        int other = random.nextInt(model.look(0));
        int article = random.nextInt(3) == 0 ? random.nextInt(4) : 0;
        int units = units(model.has(till, article, 0), random);
        int slot = random.nextInt(3) == 0 ? random.nextInt(model.look(1) + 1) : 0;
        return switch (name) {
            case "stock", "counted" -> new Object[] {article, units};
            case "sell", "unsell", "broken", "ask" -> new Object[] {till, article, units};
            case "reserve" -> new Object[] {till, article, units, 1 + random.nextInt(random.nextBoolean() ? 6 : 100)};
            case "pick" -> new Object[] {till, random.nextInt(12)};
            case "tick" -> new Object[] {till, random.nextInt(random.nextInt(10) == 0 ? 31 : 4)};
            case "give" -> new Object[] {till, other, article, units};
            case "sync", "crash", "back" -> new Object[] {till};
            case "deliver", "drop", "twice" -> new Object[] {slot};
            case "slot" -> new Object[] {slot, random.nextInt(6)};
            case "has" -> new Object[] {till, article, random.nextInt(4)};
            case "news" -> new Object[] {till, other, article};
            case "pair" -> new Object[] {till, other, random.nextInt(4)};
            case "total" -> new Object[] {article, random.nextInt(3)};
            default -> new Object[] {random.nextInt(16)};
        };
    }

    /** Often the share itself or one unit more, for there a till begins to refuse. */
    private static int units(int share, Random random) {
        return switch (random.nextInt(12)) {
            case 0 -> 1000000;
            case 1 -> share;
            case 2 -> share + 1;
            default -> 1 + random.nextInt(random.nextBoolean() ? 20 : 1000);
        };
    }
}
