/** Promises 12 sync, 13 crash and 14 back. */
public final class CrashTest {
    public static void main(String[] args) {
        Check check = new Check();
        upAndDown(check);
        wholeRecord(check);
        keptIsACopy(check);
        check.end();
    }

    private static void upAndDown(Check check) {
        PantryMarket m = new PantryMarket(3);
        check.changesNothing("what is refused", m, () -> {
            check.is("back of a till that is up", false, () -> m.back(1));
            for (int till : new int[] {-1, 3, 5, Integer.MIN_VALUE, Integer.MAX_VALUE}) {
                check.is("back(" + till + ")", false, () -> m.back(till));
                check.is("crash(" + till + ")", false, () -> m.crash(till));
                check.is("sync(" + till + ")", false, () -> m.sync(till));
            }
        });
        check.is("sync(1)", true, () -> m.sync(1));
        check.is("crash(1)", true, () -> m.crash(1));
        check.is("look(11)", 0, () -> m.look(11));
        check.is("look(10)", 1, () -> m.look(10));
        check.is("crash(1) again", false, () -> m.crash(1));
        check.is("sync of a till that is down", false, () -> m.sync(1));
        check.is("back(1)", true, () -> m.back(1));
        check.is("look(11)", 1, () -> m.look(11));
        check.is("back(1) again", false, () -> m.back(1));
        check.is("crash(1)", true, () -> m.crash(1));
    }

    /** Changes every part of a record behind a sync; the crash must take all of it back. */
    private static void wholeRecord(Check check) {
        PantryMarket m = new PantryMarket(2);
        m.stock(0, 100);
        m.unsell(1, 0, 50);
        m.reserve(0, 0, 5, 50);
        m.tick(0, 3);
        m.tick(1, 2);
        deliverAll(m);
        m.sell(0, 0, 3);
        m.broken(0, 0, 2);
        m.counted(0, 80);
        m.give(1, 0, 0, 1);
        m.deliver(0);
        m.give(0, 1, 0, 1);
        m.sync(0);
        String atSync = Picture.ofRecord(m, 0);
        check.is("the record at the sync", "clock 3 [80, 3, 2, 5] of 90 -1 -1 [0, 0, 0, 0] of 0 -1 0"
            + " [0, 0, 0, 0] of 0 -1 -1 [0, 0, 0, 0] of 0 -1 -1 [-1, -1, -1, -1] [1, 1, 1, 1]", () -> atSync);
        m.sell(0, 0, 1);
        m.broken(0, 0, 1);
        m.reserve(0, 0, 1, 1);
        m.pick(0, 0);
        m.counted(0, 60);
        m.counted(1, 5);
        m.tick(0, 2);
        m.tick(1, 8);
        deliverAll(m);
        check.is("the record is another one", "clock 5 [61, 9, 3, 0] of 73 -1 49 [5, 0, 0, 0] of 5 -1 0"
            + " [0, 0, 0, 0] of 0 -1 0 [0, 0, 0, 0] of 0 -1 0 [-1, -1, -1, -1] [1, 0, 1, 1]",
            () -> Picture.ofRecord(m, 0));
        check.is("crash(0)", true, () -> m.crash(0));
        check.is("the record is the kept one", atSync, () -> Picture.ofRecord(m, 0));
        m.back(0);
        check.is("back leaves it so", atSync, () -> Picture.ofRecord(m, 0));
        check.is("its next ID", 1, () -> m.reserve(0, 0, 1, 50));
        check.is("its reservation", true, () -> m.pick(0, 0));
        m.tick(0, 2);
        check.is("its open voucher is sent again", "0/0/1/0/0/1", () -> Picture.slotOf(m, 0));
        check.is("its next stamp", "2/0/1/2/0/2", () -> Picture.slotOf(m, 2));
    }

    private static void deliverAll(PantryMarket m) {
        while (m.look(1) > 0) {
            m.deliver(0);
        }
    }

    private static void keptIsACopy(Check check) {
        PantryMarket m = new PantryMarket(2);
        m.unsell(1, 2, 5);
        m.crash(1);
        check.is("at first nothing is kept", "[0, 0, 0, 0]", () -> Picture.hasOf(m, 1, 2));
        m.back(1);
        m.unsell(1, 2, 6);
        m.sync(1);
        m.unsell(1, 2, 7);
        m.crash(1);
        check.is("as at the sync", "[6, -6, 0, 0]", () -> Picture.hasOf(m, 1, 2));
        m.back(1);
        m.sell(1, 2, 2);
        m.crash(1);
        check.is("as at the sync again", "[6, -6, 0, 0]", () -> Picture.hasOf(m, 1, 2));
        m.back(1);
        m.sell(1, 2, 2);
        check.is("back does not touch what is kept", true, () -> m.crash(1));
        check.is("has", "[6, -6, 0, 0]", () -> Picture.hasOf(m, 1, 2));
        check.is("another till is its own", "[0, 0, 0, 0]", () -> Picture.hasOf(m, 0, 2));
    }
}
