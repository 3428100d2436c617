/**
 * LANGUAGE.md, rule 7: no call ever throws by itself, in whatever state. Far beyond the 512 calls for which the
 * document tells the answers, a clock runs over; what is answered then is free, but every call must still end well.
 */
public final class RunOverTest {
    private static final int CALLS_UNTIL_THEN = Integer.MAX_VALUE / 30;

    public static void main(String[] args) {
        Check check = new Check();
        PantryMarket m = new PantryMarket(2);
        for (int k = 0; k < CALLS_UNTIL_THEN; k++) {
            m.tick(1, 30);
        }
        check.is("the clock is about to run over", true, () -> m.look(6) > Integer.MAX_VALUE - 30);
        Markets.dropAll(m);
        check.is("the ticks by which it does", 0, () -> m.tick(1, 30));
        check.is("it has run over", true, () -> m.look(6) < 0);
        for (int k = 0; k < 24 && m.look(1) > 0; k++) {
            check.is("a message of then", true, () -> m.deliver(0) >= 0);
        }
        check.is("ticks behind that", 0, () -> m.tick(1, 30));
        check.end();
    }
}
