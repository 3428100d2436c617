import java.util.function.Function;

/** The tests of refused calls are worth what Trace sees: here it must see every single change to a busy market. */
public final class TraceTest {
    public static void main(String[] args) {
        Check check = new Check();
        String plain = Trace.of(() -> Markets.busy(3));
        check.is("two busy markets are alike", plain, () -> Trace.of(() -> Markets.busy(3)));
        for (int till = 0; till < 3; till++) {
            int t = till;
            int other = (t + 1) % 3;
            sees(check, plain, "sell", m -> m.sell(t, 1, 1));
            sees(check, plain, "unsell", m -> m.unsell(t, 1, 1));
            sees(check, plain, "broken", m -> m.broken(t, 1, 1));
            sees(check, plain, "reserve", m -> m.reserve(t, 1, 1, 1));
            sees(check, plain, "an ID", m -> m.pick(t, m.reserve(t, 1, 1, 1)) ? m.unsell(t, 1, 1) : -1);
            sees(check, plain, "pick", m -> m.pick(t, 1));
            sees(check, plain, "tick", m -> m.tick(t, 1));
            sees(check, plain, "give", m -> m.give(t, other, 1, 1));
            sees(check, plain, "sync", m -> m.sync(t));
            sees(check, plain, "crash", m -> m.crash(t));
        }
        sees(check, plain, "ask", m -> m.ask(1, 0, 1));
        sees(check, plain, "stock", m -> m.stock(0, 1));
        sees(check, plain, "counted", m -> m.counted(0, 1));
        for (int slot = 0; slot < 10; slot++) {
            int s = slot;
            sees(check, plain, "deliver", m -> m.deliver(s));
            sees(check, plain, "drop", m -> m.drop(s));
            sees(check, plain, "twice", m -> m.twice(s));
        }
        check.end();
    }

    private static void sees(Check check, String plain, String what, Function<PantryMarket, ?> call) {
        check.is(what + " is seen", true, () -> !plain.equals(Trace.of(() -> {
            PantryMarket m = Markets.busy(3);
            call.apply(m);
            return m;
        })));
    }
}
