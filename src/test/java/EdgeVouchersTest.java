import java.util.function.Supplier;

/**
 * "fewer than 4 vouchers to that till are open", "NUMBER is less than 16 above the least open one's (if one is open)",
 * "those of the 16 from there on that it has", "the floor grows to the first one it has not", and vouchers and
 * receipts that are nothing new; give and the giving by an ASK are bound alike.
 */
public final class EdgeVouchersTest {
    public static void main(String[] args) {
        Check check = new Check();
        fourth(check);
        fourthByAsk(check);
        fourOfEachPair(check);
        fourAfterCrash(check);
        fifteenAbove(check);
        fifteenAboveByAsk(check);
        leastOfSeveral(check);
        noneOpen(check);
        leastAfterCrash(check);
        askForAll(check);
        floorGrowsToTheFirstGap(check);
        lastOfTheSixteen(check);
        doubledBelowAndAboveTheFloor(check);
        oldVoucherIsNotSynced(check);
        newVoucherIsSynced(check);
        receiptsOfWhatIsNotOpen(check);
        receiptsByPairs(check);
        onTheirWay(check);
        check.end();
    }

    /** So many vouchers of one unit are open from the store to till 1, and its last sale is not synced. */
    private static PantryMarket open(int vouchers) {
        PantryMarket m = new PantryMarket(3);
        m.stock(0, 1000);
        Markets.tellAll(m, 0);
        for (int k = 0; k < vouchers; k++) {
            m.give(0, 1, 0, 1);
        }
        m.sell(0, 0, 5);
        return m;
    }

    private static PantryMarket asked(PantryMarket m, int units) {
        Markets.dropAll(m);
        m.ask(1, 0, units);
        return m;
    }

    private static void fourth(Check check) {
        PantryMarket m = open(3);
        check.is("the fourth", 3, () -> m.give(0, 1, 0, 1));
        check.is("towards till 1", "[4, 4, 0, 0]", () -> Picture.pairOf(m, 0, 1));
        check.refused("the fifth", Check.STATE, () -> open(4), x -> x.give(0, 1, 0, 1));
        m.deliver(3);
        check.illegalState("seen, but open still", () -> m.give(0, 1, 0, 1));
        check.is("the receipt", 1, () -> m.deliver(3));
        check.is("one place", 4, () -> m.give(0, 1, 0, 1));
        check.illegalState("no more", () -> m.give(0, 1, 0, 1));
    }

    private static void fourthByAsk(Check check) {
        PantryMarket m = asked(open(3), 1);
        check.is("the fourth", 1, () -> m.deliver(0));
        check.is("its voucher", "0/0/1/3/0/1", () -> Picture.slotOf(m, 0));
        check.nothingNew("the fifth", () -> asked(open(4), 1), 0);
    }

    private static void fourOfEachPair(Check check) {
        PantryMarket m = open(4);
        m.unsell(1, 0, 9);
        for (int k = 0; k < 4; k++) {
            int number = k;
            check.is("to till 2", number, () -> m.give(0, 2, 0, 1));
            check.is("the other way", number, () -> m.give(1, 0, 0, 1));
        }
        check.is("open in all", 12, () -> m.look(4));
        check.illegalState("to till 2", () -> m.give(0, 2, 0, 1));
        check.illegalState("the other way", () -> m.give(1, 0, 0, 1));
    }

    /** Receipts that came since the last SYNC are forgotten: the four are open again. */
    private static void fourAfterCrash(Check check) {
        Supplier<PantryMarket> made = () -> {
            PantryMarket m = open(4);
            for (int k = 0; k < 8; k++) {
                m.deliver(0);
            }
            m.crash(0);
            m.back(0);
            return m;
        };
        PantryMarket m = made.get();
        check.is("towards till 1", "[4, 4, 0, 0]", () -> Picture.pairOf(m, 0, 1));
        check.is("all are seen", "[0, 0, 4, 4]", () -> Picture.pairOf(m, 1, 0));
        check.refused("the fifth", Check.STATE, made, x -> x.give(0, 1, 0, 1));
    }

    /** Number 0 got lost on its way, those behind it up to the next number came through. */
    private static PantryMarket zeroLost(int next) {
        PantryMarket m = open(1);
        Markets.dropAll(m);
        while (m.pair(0, 1, 0) < next) {
            Markets.pass(m, 0, 1, 0, 1);
        }
        m.sell(0, 0, 5);
        return m;
    }

    private static void fifteenAbove(Check check) {
        PantryMarket m = zeroLost(15);
        check.is("number 15", 15, () -> m.give(0, 1, 0, 1));
        check.is("towards till 1", "[16, 2, 0, 0]", () -> Picture.pairOf(m, 0, 1));
        check.refused("number 16", Check.STATE, () -> zeroLost(16), x -> x.give(0, 1, 0, 1));
        PantryMarket later = zeroLost(16);
        check.is("to another till", 0, () -> later.give(0, 2, 0, 1));
    }

    private static void fifteenAboveByAsk(Check check) {
        PantryMarket m = asked(zeroLost(15), 1);
        check.is("number 15", 1, () -> m.deliver(0));
        check.is("its voucher", "0/0/1/15/0/1", () -> Picture.slotOf(m, 0));
        check.nothingNew("number 16", () -> asked(zeroLost(16), 1), 0);
    }

    /** With 3 and 10 open the bound is 3 + 15; when 3 is there, it is 10 + 15. */
    private static PantryMarket threeAndTenLost(int next) {
        PantryMarket m = open(0);
        for (int number = 0; number < next; number++) {
            if (number == 3 || number == 10) {
                m.give(0, 1, 0, 1);
                Markets.dropAll(m);
            } else {
                Markets.pass(m, 0, 1, 0, 1);
            }
        }
        return m;
    }

    private static PantryMarket tenLost(int next) {
        PantryMarket m = threeAndTenLost(19);
        m.tick(0, 1);
        m.deliver(0);
        m.deliver(m.look(1) - 1);
        Markets.dropAll(m);
        while (m.pair(0, 1, 0) < next) {
            Markets.pass(m, 0, 1, 0, 1);
        }
        return m;
    }

    private static void leastOfSeveral(Check check) {
        PantryMarket m = threeAndTenLost(18);
        check.is("number 18", 18, () -> m.give(0, 1, 0, 1));
        check.refused("number 19", Check.STATE, () -> threeAndTenLost(19), x -> x.give(0, 1, 0, 1));
        PantryMarket later = tenLost(25);
        check.is("seen", "[0, 0, 10, 24]", () -> Picture.pairOf(later, 1, 0));
        check.is("number 25", 25, () -> later.give(0, 1, 0, 1));
        check.refused("number 26", Check.STATE, () -> tenLost(26), x -> x.give(0, 1, 0, 1));
    }

    /** "(if one is open)": with none open the number may be any. */
    private static void noneOpen(Check check) {
        PantryMarket m = open(0);
        for (int k = 0; k < 50; k++) {
            int number = k;
            check.is("give", number, () -> Markets.pass(m, 0, 1, 0, 1));
        }
        check.is("towards till 1", "[50, 0, 0, 0]", () -> Picture.pairOf(m, 0, 1));
        check.is("seen", "[0, 0, 50, 50]", () -> Picture.pairOf(m, 1, 0));
        PantryMarket far = zeroLost(16);
        far.tick(0, 1);
        far.deliver(0);
        check.is("the receipt for 0, at last", 1, () -> far.deliver(far.look(1) - 1));
        check.is("towards till 1", "[16, 0, 0, 0]", () -> Picture.pairOf(far, 0, 1));
        check.is("number 16", 16, () -> far.give(0, 1, 0, 1));
    }

    /** The receipt for 0 came at last but was not synced: after the crash 0 is open again and binds. */
    private static void leastAfterCrash(Check check) {
        Supplier<PantryMarket> made = () -> {
            PantryMarket m = zeroLost(16);
            m.tick(0, 1);
            m.deliver(0);
            m.deliver(m.look(1) - 1);
            m.crash(0);
            m.back(0);
            return m;
        };
        PantryMarket m = made.get();
        check.is("0 and 15 are open again", "[16, 2, 0, 0]", () -> Picture.pairOf(m, 0, 1));
        check.is("both are seen", "[0, 0, 16, 16]", () -> Picture.pairOf(m, 1, 0));
        check.refused("number 16", Check.STATE, made, x -> x.give(0, 1, 0, 1));
        Markets.dropAll(m);
        m.tick(0, 1);
        check.is("0 is sent again", "0/0/1/0/0/1", () -> Picture.slotOf(m, 0));
        check.is("nothing new", 0, () -> m.deliver(0));
        check.is("its receipt", 1, () -> m.deliver(m.look(1) - 1));
        check.is("number 16", 16, () -> m.give(0, 1, 0, 1));
    }

    /** "ASK: if it could GIVE these units to the one that asks it does, else nothing": all of the share, no more. */
    private static void askForAll(Check check) {
        PantryMarket m = asked(open(0), 995);
        check.is("all", 1, () -> m.deliver(0));
        check.is("the store", "[0, 5, 0, 0]", () -> Picture.hasOf(m, 0, 0));
        check.is("its voucher", "0/0/1/0/0/995", () -> Picture.slotOf(m, 0));
        m.crash(0);
        check.is("it has synced", "[0, 5, 0, 0]", () -> Picture.hasOf(m, 0, 0));
        check.nothingNew("one more", () -> asked(open(0), 996), 0);
        check.nothingNew("a million", () -> asked(open(0), 1000000), 0);
    }

    /** Of the numbers 0 to 3 any may come first; the floor is at the first one that has not come. */
    private static void floorGrowsToTheFirstGap(Check check) {
        int[][] orders = {{0, 1, 2, 3}, {3, 2, 1, 0}, {1, 0, 3, 2}, {2, 3, 0, 1}, {1, 2, 3, 0}, {0, 3, 1, 2}};
        int[][] floors = {{1, 2, 3, 4}, {0, 0, 0, 4}, {0, 2, 2, 4}, {0, 0, 1, 4}, {0, 0, 0, 4}, {1, 1, 2, 4}};
        for (int row = 0; row < orders.length; row++) {
            PantryMarket m = open(4);
            for (int k = 0; k < 4; k++) {
                int number = orders[row][k];
                check.is("number " + number, 1, () -> m.deliver(slotOfNumber(m, number)));
                String want = "[0, 0, " + floors[row][k] + ", " + (k + 1) + "]";
                check.is("seen", want, () -> Picture.pairOf(m, 1, 0));
            }
        }
    }

    private static int slotOfNumber(PantryMarket m, int number) {
        int slot = 0;
        while (m.slot(slot, 0) != 0 || m.slot(slot, 3) != number) {
            slot++;
        }
        return slot;
    }

    /** The sixteenth from the floor on is held as seen, and a second time it is nothing new. */
    private static void lastOfTheSixteen(Check check) {
        PantryMarket m = zeroLost(15);
        m.give(0, 1, 0, 7);
        m.twice(0);
        check.is("number 15", 1, () -> m.deliver(0));
        check.is("seen", "[0, 0, 0, 15]", () -> Picture.pairOf(m, 1, 0));
        check.is("number 15 again", 0, () -> m.deliver(0));
        check.is("has", "[21, 0, 0, 0]", () -> Picture.hasOf(m, 1, 0));
        Markets.dropAll(m);
        m.tick(0, 1);
        check.is("number 0", 1, () -> m.deliver(0));
        check.is("the floor leaps by sixteen", "[0, 0, 16, 16]", () -> Picture.pairOf(m, 1, 0));
        check.is("number 15 once more", 0, () -> m.deliver(0));
        check.is("has", "[22, 0, 0, 0]", () -> Picture.hasOf(m, 1, 0));
    }

    private static void doubledBelowAndAboveTheFloor(Check check) {
        for (int number : new int[] {0, 2}) {
            PantryMarket m = open(4);
            int slot = slotOfNumber(m, number);
            m.twice(slot);
            check.is("number " + number, 1, () -> m.deliver(slot));
            String tills = Picture.ofRecord(m, 0) + Picture.ofRecord(m, 1);
            int messages = m.look(1);
            check.is("again", 0, () -> m.deliver(slotOfNumber(m, number)));
            check.is("no till is another one", tills, () -> Picture.ofRecord(m, 0) + Picture.ofRecord(m, 1));
            check.is("one message went, one came", messages, () -> m.look(1));
            check.is("a receipt", "1/1/0/" + number + "/-1/-1", () -> Picture.slotOf(m, messages - 1));
        }
    }

    /** "if its number is not SEEN, .. the till SYNCS": an old one does not write down what the till did since. */
    private static void oldVoucherIsNotSynced(Check check) {
        PantryMarket m = open(1);
        m.twice(0);
        m.deliver(0);
        m.unsell(1, 1, 4);
        check.is("an old one", 0, () -> m.deliver(0));
        m.crash(1);
        check.is("not synced", "[0, 0, 0, 0]", () -> Picture.hasOf(m, 1, 1));
        check.is("what came by the new one is", "[1, 0, 0, 0]", () -> Picture.hasOf(m, 1, 0));
    }

    private static void newVoucherIsSynced(Check check) {
        PantryMarket m = open(1);
        m.unsell(1, 1, 4);
        m.twice(0);
        check.is("a new one", 1, () -> m.deliver(0));
        m.crash(1);
        check.is("all is synced", "[4, -4, 0, 0]", () -> Picture.hasOf(m, 1, 1));
        check.is("the units, too", "[1, 0, 0, 0]", () -> Picture.hasOf(m, 1, 0));
        m.back(1);
        check.is("that it was seen, too", 0, () -> m.deliver(0));
    }

    /** Of one to four open vouchers any may be the one that is received; its second receipt finds it open no more. */
    private static void receiptsOfWhatIsNotOpen(Check check) {
        for (int vouchers = 1; vouchers <= 4; vouchers++) {
            for (int number = 0; number < vouchers; number++) {
                PantryMarket m = received(vouchers, number);
                check.is("towards till 1", "[" + vouchers + ", " + (vouchers - 1) + ", 0, 0]",
                    () -> Picture.pairOf(m, 0, 1));
                int of = vouchers;
                int which = number;
                check.nothingNew("the second receipt for " + which + " of " + of, () -> received(of, which), of - 1);
            }
        }
    }

    /** One receipt has come; the other one stands behind the vouchers that are left. */
    private static PantryMarket received(int vouchers, int number) {
        PantryMarket m = open(vouchers);
        m.deliver(number);
        m.twice(vouchers - 1);
        m.deliver(vouchers - 1);
        m.sell(0, 0, 1);
        return m;
    }

    /** The same number is open in three pairs; a receipt closes the voucher to the till from which it comes. */
    private static void receiptsByPairs(Check check) {
        PantryMarket m = open(1);
        m.give(0, 2, 0, 1);
        m.unsell(1, 0, 5);
        m.give(1, 0, 0, 1);
        check.is("to till 2", 1, () -> m.deliver(1));
        check.is("its receipt", 1, () -> m.deliver(2));
        check.is("0 to 1", 1, () -> m.pair(0, 1, 1));
        check.is("0 to 2", 0, () -> m.pair(0, 2, 1));
        check.is("1 to 0", 1, () -> m.pair(1, 0, 1));
        check.is("to the store", 1, () -> m.deliver(1));
        check.is("its receipt", 1, () -> m.deliver(1));
        check.is("0 to 1", 1, () -> m.pair(0, 1, 1));
        check.is("1 to 0", 0, () -> m.pair(1, 0, 1));
        check.is("seen by the store", "[1, 1, 1, 1]", () -> Picture.pairOf(m, 0, 1));
        check.is("seen by till 1", "[1, 0, 0, 0]", () -> Picture.pairOf(m, 1, 0));
    }

    /** "in OPEN vouchers whose numbers were not SEEN", be the message lost, doubled or on its way. */
    private static void onTheirWay(Check check) {
        PantryMarket m = open(4);
        check.is("four", "[4, 1000, 1000]", () -> Picture.totalsOf(m, 0));
        m.drop(0);
        check.is("lost", "[4, 1000, 1000]", () -> Picture.totalsOf(m, 0));
        m.twice(0);
        check.is("doubled", "[4, 1000, 1000]", () -> Picture.totalsOf(m, 0));
        m.deliver(0);
        check.is("seen", "[3, 1000, 1000]", () -> Picture.totalsOf(m, 0));
        m.deliver(m.look(1) - 1);
        check.is("open no more", "[3, 1000, 1000]", () -> Picture.totalsOf(m, 0));
        m.crash(0);
        check.is("open again", "[3, 1000, 1000]", () -> Picture.totalsOf(m, 0));
        check.is("of another article", "[0, 0, 0]", () -> Picture.totalsOf(m, 1));
    }
}
