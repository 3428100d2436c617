import java.util.function.Supplier;

/**
 * All that calls can bring to light of a market: what the face shows now, and what comes out later on, such as IDs and
 * ends of reservations, open vouchers, stamps, and what is kept. Looking so deep spoils the market, so each look has
 * one made anew. It makes more than the 512 calls for which the document binds an object; the class does not count.
 */
final class Trace {
    private static final int MOST_DELIVERIES = 500;

    private final StringBuilder text = new StringBuilder();

    private Trace() {
    }

    static String of(Supplier<PantryMarket> made) {
        Trace trace = new Trace();
        trace.goOn(made.get());
        trace.pickAll(made.get());
        trace.goOn(crashed(made.get()));
        trace.pickAll(crashed(made.get()));
        return trace.text.toString();
    }

    private static PantryMarket crashed(PantryMarket m) {
        for (int till = 0; till < m.look(0); till++) {
            m.crash(till);
        }
        return m;
    }

    private void goOn(PantryMarket m) {
        line("at first", Picture.of(m));
        deliverAll(m);
        allBack(m);
        for (int till = 0; till < m.look(0); till++) {
            for (int k = 0; k < 8; k++) {
                line("reservations that went", m.tick(till, 1));
                deliverAll(m);
            }
        }
        line("after eight ticks", Picture.of(m));
        for (int till = 0; till < m.look(0); till++) {
            for (int k = 0; k < 100; k++) {
                line("reservations that went", m.tick(till, 1));
                Markets.dropAll(m);
            }
        }
        line("at last", Picture.of(m));
    }

    private void deliverAll(PantryMarket m) {
        for (int k = 0; k < MOST_DELIVERIES && m.look(1) > 0; k++) {
            line(Picture.slotOf(m, 0), m.deliver(0));
        }
    }

    private void allBack(PantryMarket m) {
        for (int till = 0; till < m.look(0); till++) {
            line("back", m.back(till));
        }
    }

    private void pickAll(PantryMarket m) {
        allBack(m);
        for (int till = 0; till < m.look(0); till++) {
            for (int id = 0; id < 12; id++) {
                line("pick", m.pick(till, id));
            }
            int at = till;
            line("a unit to reserve", Check.answer(() -> m.unsell(at, 0, 1)));
            line("next ID", Check.answer(() -> m.reserve(at, 0, 1, 1)));
        }
        line("picked", Picture.of(m));
    }

    private void line(String what, Object answer) {
        text.append(what).append(": ").append(answer).append('\n');
    }
}
