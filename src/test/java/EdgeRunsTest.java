/**
 * "An object is used for at most 512 calls": as far as so many calls can drive a number, the answers hold. Each run
 * here makes 512 calls at the most, those that ask for the answers among them.
 */
public final class EdgeRunsTest {
    private static final int CALLS = 512;
    private static final int MILLION = 1000000;

    public static void main(String[] args) {
        Check check = new Check();
        longestClock(check);
        mostLost(check);
        mostNumbers(check);
        mostIds(check);
        leastSold(check);
        leastBooked(check);
        mostCrashes(check);
        largestShareByVouchers(check);
        check.end();
    }

    private static void longestClock(Check check) {
        PantryMarket m = new PantryMarket(3);
        for (int k = 0; k < CALLS - 4; k++) {
            m.tick(2, 30);
        }
        check.is("the clock", 15240, () -> m.look(7));
        check.is("news but to itself, less those in the net", 10160 - 24, () -> m.look(2));
        m.drop(0);
        check.is("its ticks go on", 0, () -> m.tick(2, 30));
    }

    /** Sixteen vouchers are sent again with each tick, and news besides with four of five. */
    private static void mostLost(Check check) {
        PantryMarket m = new PantryMarket(5);
        m.stock(0, 100);
        for (int k = 0; k < 16; k++) {
            m.give(0, 1 + k % 4, 0, 1);
        }
        int ticks = CALLS - 19;
        for (int k = 0; k < ticks; k++) {
            m.tick(0, 30);
        }
        check.is("messages", 24, () -> m.look(1));
        check.is("lost", 16 + ticks * (30 * 16 + 24) - 24, () -> m.look(2));
    }

    private static void mostNumbers(Check check) {
        PantryMarket m = new PantryMarket(2);
        m.stock(0, MILLION);
        for (int k = 0; k < 169; k++) {
            int number = k;
            check.is("give", number, () -> m.give(0, 1, 0, 1));
            m.deliver(0);
            m.deliver(0);
        }
        check.is("towards till 1", 169, () -> m.pair(0, 1, 0));
        check.is("the floor", 169, () -> m.pair(1, 0, 2));
        check.is("the share", 169, () -> m.has(1, 0, 0));
    }

    private static void mostIds(Check check) {
        PantryMarket m = new PantryMarket(2);
        m.unsell(1, 3, MILLION);
        for (int k = 0; k < 255; k++) {
            int id = k;
            check.is("reserve", id, () -> m.reserve(1, 3, 1, 100));
            check.is("pick", true, () -> m.pick(1, id));
        }
        check.is("sold", 255 - MILLION, () -> m.has(1, 3, 1));
    }

    /** Five tills take back as much as they may; sold is far below 0, and all units together are none. */
    private static void leastSold(Check check) {
        PantryMarket m = new PantryMarket(5);
        for (int till = 0; till < 5; till++) {
            for (int k = 0; k < 100; k++) {
                m.unsell(till, 1, MILLION);
            }
        }
        for (int till = 0; till < 5; till++) {
            int t = till;
            check.illegalState("unsell", () -> m.unsell(t, 1, 1));
        }
        check.is("sold", -100000000, () -> m.has(4, 1, 1));
        check.is("all together", 0, () -> m.total(1, 1));
        check.is("booked", 0, () -> m.total(1, 2));
    }

    private static void leastBooked(Check check) {
        PantryMarket m = new PantryMarket(2);
        for (int k = 0; k < 254; k++) {
            m.unsell(0, 0, MILLION);
            m.counted(0, 0);
        }
        check.is("booked", -254000000, () -> m.total(0, 2));
        check.is("all together", -254000000, () -> m.total(0, 1));
        check.is("sold", -254000000, () -> m.has(0, 0, 1));
        check.is("stock", 1, () -> m.stock(0, 1));
    }

    private static void mostCrashes(Check check) {
        PantryMarket m = new PantryMarket(2);
        m.stock(0, 5);
        m.give(0, 1, 0, 2);
        for (int k = 0; k < 126; k++) {
            m.crash(0);
            m.back(0);
            m.crash(1);
            m.back(1);
        }
        check.is("the voucher", 1, () -> m.deliver(0));
        check.is("the receipt", 1, () -> m.deliver(0));
        check.is("all together", 5, () -> m.total(0, 1));
        check.is("the share", 2, () -> m.has(1, 0, 0));
    }

    /** Four tills send the fifth one what they take back: its share grows beyond what unsell would let it have. */
    private static void largestShareByVouchers(Check check) {
        PantryMarket m = new PantryMarket(5);
        for (int k = 0; k < 127; k++) {
            int till = k % 4;
            m.unsell(till, 2, MILLION);
            m.give(till, 4, 2, MILLION);
            m.deliver(0);
            m.deliver(0);
        }
        check.is("the share", 127000000, () -> m.has(4, 2, 0));
        check.is("all together", 0, () -> m.total(2, 1));
        check.illegalState("unsell", () -> m.unsell(4, 2, 1));
    }
}
