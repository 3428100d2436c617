import java.util.function.Supplier;

/**
 * A till that is DOWN: every call that it refuses, what becomes of messages to it, and what goes on without it;
 * "false if it was" of crash and back, and "false if .. it is DOWN" of pick and sync.
 */
public final class EdgeDownTest {
    public static void main(String[] args) {
        Check check = new Check();
        refusesAll(check);
        store(check);
        downOnce(check);
        upOnce(check);
        messagesToIt(check);
        vouchersToIt(check);
        asksToIt(check);
        ticksSendToIt(check);
        othersGoOn(check);
        shows(check);
        check.end();
    }

    private static Supplier<PantryMarket> busyWithout(int till) {
        return () -> {
            PantryMarket m = Markets.busy(3);
            m.crash(till);
            return m;
        };
    }

    private static void refusesAll(Check check) {
        for (int till = 0; till < 3; till++) {
            int t = till;
            int other = (t + 1) % 3;
            Supplier<PantryMarket> made = busyWithout(t);
            check.refused("sell", Check.STATE, made, m -> m.sell(t, 1, 1));
            check.refused("unsell", Check.STATE, made, m -> m.unsell(t, 1, 1));
            check.refused("broken", Check.STATE, made, m -> m.broken(t, 1, 1));
            check.refused("reserve", Check.STATE, made, m -> m.reserve(t, 1, 1, 1));
            check.refused("pick", false, made, m -> m.pick(t, 1));
            check.refused("tick", Check.STATE, made, m -> m.tick(t, 1));
            check.refused("tick of none", Check.STATE, made, m -> m.tick(t, 0));
            check.refused("give", Check.STATE, made, m -> m.give(t, other, 1, 1));
            check.refused("ask", Check.STATE, made, m -> m.ask(t, 0, 1));
            check.refused("sync", false, made, m -> m.sync(t));
            check.refused("crash", false, made, m -> m.crash(t));
        }
    }

    private static void store(Check check) {
        check.refused("stock", Check.STATE, busyWithout(0), m -> m.stock(0, 1));
        check.refused("counted", Check.STATE, busyWithout(0), m -> m.counted(0, 1));
        check.refused("counted of none", Check.STATE, busyWithout(0), m -> m.counted(0, 0));
        PantryMarket m = busyWithout(1).get();
        check.is("stock asks for the store alone", 2999996, () -> m.stock(0, 1));
        check.is("so does counted", -2999996, () -> m.counted(0, 0));
    }

    /** "The till is DOWN, and its record is the kept one: true; false if it was" */
    private static void downOnce(Check check) {
        PantryMarket m = new PantryMarket(3);
        m.unsell(1, 0, 5);
        check.is("crash(1)", true, () -> m.crash(1));
        check.is("is it up", 0, () -> m.look(11));
        check.is("crash(1) again", false, () -> m.crash(1));
        check.is("is it up", 0, () -> m.look(11));
        check.is("the others are", "1 1", () -> m.look(10) + " " + m.look(12));
        check.is("what was never kept is gone", "[0, 0, 0, 0]", () -> Picture.hasOf(m, 1, 0));
    }

    /** "The till is UP: true; false if it was" */
    private static void upOnce(Check check) {
        for (int till = 0; till < 3; till++) {
            int t = till;
            check.refused("back of a till that is UP", false, () -> Markets.busy(3), m -> m.back(t));
        }
        PantryMarket m = busyWithout(2).get();
        String down = Picture.ofRecord(m, 2);
        check.is("back(2)", true, () -> m.back(2));
        check.is("is it up", 1, () -> m.look(12));
        check.is("its record is what it was", down, () -> Picture.ofRecord(m, 2));
        check.is("back(2) again", false, () -> m.back(2));
        check.is("it sells again", 1999992, () -> m.sell(2, 3, 1));
    }

    /** "DELIVERING takes it out; if the till is DOWN, that is all", and deliver answers 0, for each of the kinds. */
    private static void messagesToIt(Check check) {
        for (int kind = 0; kind < 4; kind++) {
            int k = kind;
            int to = kind == 0 || kind == 3 ? 0 : 1;
            PantryMarket m = busyTwo();
            int slot = slotOfKind(m, kind, to);
            m.crash(to);
            String tills = tillsOf(m);
            int messages = m.look(1);
            String next = Picture.slotOf(m, slot + 1);
            check.is("message of kind " + k, 0, () -> m.deliver(slot));
            check.is("it is taken out", messages - 1, () -> m.look(1));
            check.is("the next one moves up", next, () -> Picture.slotOf(m, slot));
            check.is("no till is another one", tills, () -> tillsOf(m));
            check.is("nothing is lost as in a full net", 0, () -> m.look(2));
        }
    }

    /** In a market of two the news go to the store; here one goes to till 1, and a message stands behind each. */
    private static PantryMarket busyTwo() {
        PantryMarket m = Markets.busy(2);
        m.tick(0, 2);
        return m;
    }

    private static int slotOfKind(PantryMarket m, int kind, int to) {
        int slot = 0;
        while (m.slot(slot, 0) != kind || m.slot(slot, 2) != to) {
            slot++;
        }
        return slot;
    }

    private static String tillsOf(PantryMarket m) {
        return Picture.ofRecord(m, 0) + "\n" + Picture.ofRecord(m, 1) + "\n" + m.look(10) + m.look(11);
    }

    /** To GIVE a till must be UP, but the one that gets may be DOWN: its voucher comes when it is back. */
    private static void vouchersToIt(Check check) {
        PantryMarket m = new PantryMarket(2);
        m.stock(0, 10);
        m.crash(1);
        check.is("give to a till that is DOWN", 0, () -> m.give(0, 1, 0, 4));
        check.is("deliver", 0, () -> m.deliver(0));
        check.is("no receipt", 0, () -> m.look(1));
        check.is("the units are on their way", "[4, 10, 10]", () -> Picture.totalsOf(m, 0));
        m.back(1);
        m.tick(0, 1);
        check.is("sent again", 1, () -> m.deliver(0));
        check.is("the units are there", "[4, 0, 0, 0]", () -> Picture.hasOf(m, 1, 0));
    }

    private static void asksToIt(Check check) {
        PantryMarket m = new PantryMarket(2);
        m.stock(0, 10);
        Markets.tellAll(m, 0);
        m.crash(0);
        check.is("ask of a till that is DOWN", 0, () -> m.ask(1, 0, 4));
        check.is("it is sent", "3/1/0/0/4/-1", () -> Picture.slotOf(m, 0));
        check.is("deliver", 0, () -> m.deliver(0));
        check.is("nothing is given", "[10, 0, 0, 0]", () -> Picture.hasOf(m, 0, 0));
        check.is("nothing is sent", 0, () -> m.look(1));
    }

    /** The others do not know that it is DOWN: it gets its open vouchers again, and news. */
    private static void ticksSendToIt(Check check) {
        PantryMarket m = new PantryMarket(3);
        m.stock(0, 10);
        m.give(0, 1, 0, 4);
        m.drop(0);
        m.crash(1);
        m.tick(0, 1);
        check.is("its voucher", "0/0/1/0/0/4", () -> Picture.slotOf(m, 0));
        check.is("its news", "2/0/1/0/6/0", () -> Picture.slotOf(m, 1));
    }

    private static void othersGoOn(Check check) {
        PantryMarket m = busyWithout(0).get();
        check.is("drop of a message to it", true, () -> m.drop(slotOfKind(m, 3, 0)));
        check.is("twice of a message to it", true, () -> m.twice(slotOfKind(m, 0, 0)));
        check.is("another till sells", 1999996, () -> m.sell(1, 1, 1));
        check.is("another till syncs", true, () -> m.sync(1));
        check.is("another till crashes", true, () -> m.crash(1));
        check.is("and is back", true, () -> m.back(1));
        check.is("the one is still DOWN", 0, () -> m.look(10));
    }

    /** What is shown of a till does not ask whether it is UP. */
    private static void shows(Check check) {
        PantryMarket m = busyWithout(0).get();
        check.is("has", "[2999990, 0, 0, 0]", () -> Picture.hasOf(m, 0, 1));
        check.is("pair", "[2, 2, 1, 1]", () -> Picture.pairOf(m, 0, 2));
        check.is("news", -1, () -> m.news(0, 1, 0));
        check.is("news of it", 2999995, () -> m.news(1, 0, 0));
        check.is("total", "[12, 3000000, 3000000]", () -> Picture.totalsOf(m, 0));
        check.is("its clock", 0, () -> m.look(5));
        check.is("open vouchers", 4, () -> m.look(4));
    }
}
