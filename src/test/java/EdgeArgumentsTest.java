/**
 * "IllegalArgumentException if there is no such ..", "false if there is no such till", "UNITS in a call are
 * 1 .. 1000000": for every argument of every call that changes something, the values up to both ends are taken, those
 * next to them and the farthest ones are refused, and then nothing has changed.
 */
public final class EdgeArgumentsTest {
    private static final int LEAST = Integer.MIN_VALUE;
    private static final int MOST = Integer.MAX_VALUE;

    /** A call with one argument that changes from test to test. */
    private interface Call {
        Object of(PantryMarket m, int argument);
    }

    /** What a call answers when it is refused, and what is due when it is not, told before it is made. */
    private record Row(String name, Object refusal, Call call, Call due) {
    }

    private static final Row[] BY_TILL = {
        new Row("sell, till", Check.ARGUMENT, (m, t) -> m.sell(t, 1, 1), (m, t) -> m.has(t, 1, 0) - 1),
        new Row("unsell, till", Check.ARGUMENT, (m, t) -> m.unsell(t, 1, 1), (m, t) -> m.has(t, 1, 0) + 1),
        new Row("broken, till", Check.ARGUMENT, (m, t) -> m.broken(t, 1, 1), (m, t) -> m.has(t, 1, 0) - 1),
        new Row("reserve, till", Check.ARGUMENT, (m, t) -> m.reserve(t, 1, 1, 1), (m, t) -> 3),
        new Row("pick, till", false, (m, t) -> m.pick(t, 1), (m, t) -> true),
        new Row("tick, till", Check.ARGUMENT, (m, t) -> m.tick(t, 9), (m, t) -> 1),
        new Row("give, till", Check.ARGUMENT, (m, t) -> m.give(t, otherThan(t), 1, 1),
            (m, t) -> m.pair(t, otherThan(t), 0)),
        new Row("give, to", Check.ARGUMENT, (m, t) -> m.give(otherThan(t), t, 1, 1),
            (m, t) -> m.pair(otherThan(t), t, 0)),
        new Row("ask, till", Check.ARGUMENT, (m, t) -> m.ask(t, 0, 1), (m, t) -> t == 1 ? 0 : -1),
        new Row("sync, till", false, (m, t) -> m.sync(t), (m, t) -> true),
        new Row("crash, till", false, (m, t) -> m.crash(t), (m, t) -> true),
        new Row("back, till", false, (m, t) -> m.crash(t) | m.back(t), (m, t) -> true)};

    private static final Row[] BY_ARTICLE = {
        new Row("stock, article", Check.ARGUMENT, (m, a) -> m.stock(a, 1), (m, a) -> m.has(0, a, 0) + 1),
        new Row("sell, article", Check.ARGUMENT, (m, a) -> m.sell(0, a, 1), (m, a) -> m.has(0, a, 0) - 1),
        new Row("unsell, article", Check.ARGUMENT, (m, a) -> m.unsell(1, a, 1), (m, a) -> m.has(1, a, 0) + 1),
        new Row("broken, article", Check.ARGUMENT, (m, a) -> m.broken(1, a, 1), (m, a) -> m.has(1, a, 0) - 1),
        new Row("reserve, article", Check.ARGUMENT, (m, a) -> m.reserve(1, a, 1, 1), (m, a) -> 3),
        new Row("give, article", Check.ARGUMENT, (m, a) -> m.give(0, 1, a, 1), (m, a) -> m.pair(0, 1, 0)),
        new Row("ask, article", Check.ARGUMENT, (m, a) -> m.ask(1, a, 1), (m, a) -> a == 0 ? 0 : -1),
        new Row("counted, article", Check.ARGUMENT, (m, a) -> m.counted(a, 1), (m, a) -> 1 - m.has(0, a, 0))};

    private static final Row[] BY_UNITS = {
        new Row("stock, units", Check.ARGUMENT, (m, u) -> m.stock(0, u), (m, u) -> m.has(0, 0, 0) + u),
        new Row("sell, units", Check.ARGUMENT, (m, u) -> m.sell(1, 0, u), (m, u) -> m.has(1, 0, 0) - u),
        new Row("unsell, units", Check.ARGUMENT, (m, u) -> m.unsell(1, 0, u), (m, u) -> m.has(1, 0, 0) + u),
        new Row("broken, units", Check.ARGUMENT, (m, u) -> m.broken(1, 0, u), (m, u) -> m.has(1, 0, 0) - u),
        new Row("reserve, units", Check.ARGUMENT, (m, u) -> m.reserve(1, 0, u, 1), (m, u) -> 3),
        new Row("give, units", Check.ARGUMENT, (m, u) -> m.give(0, 1, 0, u), (m, u) -> m.pair(0, 1, 0)),
        new Row("ask, units", Check.ARGUMENT, (m, u) -> m.ask(1, 0, u), (m, u) -> 0)};

    /** What is counted may be nothing at all. */
    private static final Row COUNTED = new Row("counted, units", Check.ARGUMENT, (m, u) -> m.counted(2, u),
        (m, u) -> u - m.has(0, 2, 0));
    private static final Row RESERVE_TICKS = new Row("reserve, ticks", Check.ARGUMENT,
        (m, ticks) -> m.reserve(1, 0, 1, ticks), (m, ticks) -> 3);
    /** In a busy market the store's clock is 1, and its reservation 2 ends at 9. */
    private static final Row TICKS = new Row("tick, n", Check.ARGUMENT,
        (m, ticks) -> m.tick(0, ticks), (m, ticks) -> ticks < 8 ? 0 : 1);

    public static void main(String[] args) {
        Check check = new Check();
        for (int n = 2; n <= 5; n++) {
            for (Row row : BY_TILL) {
                ends(check, row, n, 0, n - 1);
            }
        }
        for (Row row : BY_ARTICLE) {
            ends(check, row, 3, 0, 3);
        }
        for (Row row : BY_UNITS) {
            ends(check, row, 3, 1, 1000000);
        }
        ends(check, COUNTED, 3, 0, 1000000);
        ends(check, RESERVE_TICKS, 3, 1, 100);
        ends(check, TICKS, 3, 0, 30);
        toItself(check);
        wrongArgumentsComeFirst(check);
        check.end();
    }

    private static void ends(Check check, Row row, int n, int first, int last) {
        for (int argument : new int[] {first, last}) {
            PantryMarket m = Markets.busy(n);
            Object due = row.due.of(m, argument);
            check.is(name(row, n, argument), due, () -> row.call.of(m, argument));
        }
        for (int argument : new int[] {first - 1, last + 1, LEAST, MOST}) {
            check.refused(name(row, n, argument), row.refusal, () -> Markets.busy(n), m -> row.call.of(m, argument));
        }
    }

    private static String name(Row row, int n, int argument) {
        return row.name + " = " + argument + " among " + n + " tills";
    }

    private static int otherThan(int till) {
        return till == 0 ? 1 : 0;
    }

    /** "they are the same" */
    private static void toItself(Check check) {
        for (int till = 0; till < 3; till++) {
            int t = till;
            check.refused("give of " + t + " to itself", Check.ARGUMENT, () -> Markets.busy(3),
                m -> m.give(t, t, 1, 1));
        }
    }

    /** Both exceptions fit a wrong argument to a till that is DOWN or poor; the document names this one first. */
    private static void wrongArgumentsComeFirst(Check check) {
        PantryMarket m = new PantryMarket(2);
        check.illegalArgument("sell", () -> m.sell(0, 4, 1));
        check.illegalArgument("broken", () -> m.broken(0, 0, 1000001));
        check.illegalArgument("reserve", () -> m.reserve(0, 0, 1, 0));
        check.illegalArgument("give", () -> m.give(0, 0, 0, 1));
        check.illegalArgument("give", () -> m.give(0, 2, 0, 1));
        m.crash(0);
        check.illegalArgument("stock", () -> m.stock(0, 0));
        check.illegalArgument("sell", () -> m.sell(0, -1, 1));
        check.illegalArgument("unsell", () -> m.unsell(0, 0, 0));
        check.illegalArgument("broken", () -> m.broken(0, 0, 0));
        check.illegalArgument("reserve", () -> m.reserve(0, 0, 1, 101));
        check.illegalArgument("tick", () -> m.tick(0, 31));
        check.illegalArgument("give", () -> m.give(0, 1, 4, 1));
        check.illegalArgument("ask", () -> m.ask(0, 0, 0));
        check.illegalArgument("counted", () -> m.counted(0, -1));
    }
}
