/** Promises 9 give, 21 pair, 22 total, and the delivering (15) of vouchers and receipts. */
public final class VoucherTest {
    public static void main(String[] args) {
        Check check = new Check();
        oneVoucher(check);
        refused(check);
        fourOpen(check);
        sixteenNumbers(check);
        theirNumbersByPairs(check);
        turnedRound(check);
        giverSyncs(check);
        receiverSyncs(check);
        receiptIsNotSynced(check);
        whichOnesAreOpen(check);
        downReceiver(check);
        wrongPairs(check);
        wrongTotals(check);
        check.end();
    }

    private static void oneVoucher(Check check) {
        PantryMarket m = new PantryMarket(3);
        m.stock(2, 10);
        check.is("give(0, 2, 2, 4)", 0, () -> m.give(0, 2, 2, 4));
        check.is("the giver", "[6, 0, 0, 0]", () -> Picture.hasOf(m, 0, 2));
        check.is("the voucher", "0/0/2/0/2/4", () -> Picture.slotOf(m, 0));
        check.is("towards the other", "[1, 1, 0, 0]", () -> Picture.pairOf(m, 0, 2));
        check.is("on its way", "[4, 10, 10]", () -> Picture.totalsOf(m, 2));
        check.is("open", 1, () -> m.look(4));
        m.twice(0);
        check.is("deliver(0)", 1, () -> m.deliver(0));
        check.is("the receiver", "[4, 0, 0, 0]", () -> Picture.hasOf(m, 2, 2));
        check.is("it has seen it", "[0, 0, 1, 1]", () -> Picture.pairOf(m, 2, 0));
        check.is("still open, but seen", "[0, 10, 10]", () -> Picture.totalsOf(m, 2));
        check.is("still open", 1, () -> m.look(4));
        check.is("the receipt", "1/2/0/0/-1/-1", () -> Picture.slotOf(m, 1));
        check.is("the doubled voucher is nothing new", 0, () -> m.deliver(0));
        check.is("the receiver", "[4, 0, 0, 0]", () -> Picture.hasOf(m, 2, 2));
        check.is("but has its receipt too", "1/2/0/0/-1/-1", () -> Picture.slotOf(m, 1));
        check.is("the receipt", 1, () -> m.deliver(0));
        check.is("no more open", "[1, 0, 0, 0]", () -> Picture.pairOf(m, 0, 2));
        check.is("the second receipt", 0, () -> m.deliver(0));
        check.is("the net", 0, () -> m.look(1));
        check.is("give(0, 2, 2, 6)", 1, () -> m.give(0, 2, 2, 6));
    }

    private static void refused(Check check) {
        PantryMarket m = new PantryMarket(3);
        m.stock(1, 10);
        check.changesNothing("a give that is refused", m, () -> {
            check.illegalArgument("to itself", () -> m.give(0, 0, 1, 1));
            check.illegalArgument("to itself, too many", () -> m.give(1, 1, 1, 1));
            check.illegalArgument("to no till", () -> m.give(0, 3, 1, 1));
            check.illegalArgument("to no till", () -> m.give(0, -1, 1, 1));
            check.illegalArgument("of no till", () -> m.give(3, 0, 1, 1));
            check.illegalState("too many", () -> m.give(0, 1, 1, 11));
            check.illegalState("too many", () -> m.give(1, 0, 1, 1));
        });
        m.crash(0);
        check.changesNothing("a give of a till that is down", m, () -> {
            check.illegalState("give(0, 1, 1, 1)", () -> m.give(0, 1, 1, 1));
            check.illegalArgument("give(0, 0, 1, 1)", () -> m.give(0, 0, 1, 1));
        });
        m.back(0);
        check.is("all of the share", 0, () -> m.give(0, 1, 1, 10));
    }

    private static void fourOpen(Check check) {
        PantryMarket m = new PantryMarket(3);
        m.stock(0, 100);
        for (int k = 0; k < 4; k++) {
            int number = k;
            check.is("give " + k, number, () -> m.give(0, 1, 0, 1));
        }
        check.changesNothing("the fifth", m, () -> check.illegalState("the fifth", () -> m.give(0, 1, 0, 1)));
        check.is("to another till", 0, () -> m.give(0, 2, 0, 1));
        m.deliver(1);
        check.illegalState("without the receipt", () -> m.give(0, 1, 0, 1));
        m.deliver(m.look(1) - 1);
        check.is("with it", 4, () -> m.give(0, 1, 0, 1));
        check.illegalState("the next one", () -> m.give(0, 1, 0, 1));
        check.is("towards till 1", "[5, 4, 0, 0]", () -> Picture.pairOf(m, 0, 1));
        check.is("what till 1 has seen", "[0, 0, 0, 1]", () -> Picture.pairOf(m, 1, 0));
    }

    private static void sixteenNumbers(Check check) {
        PantryMarket m = new PantryMarket(2);
        m.stock(0, 1000);
        oneBehindFifteen(check, m, 0);
        oneBehindFifteen(check, m, 16);
        check.is("number 32", 32, () -> m.give(0, 1, 0, 1));
        m.twice(0);
        check.is("its voucher", 1, () -> m.deliver(0));
        check.is("its voucher again", 0, () -> m.deliver(0));
        check.is("what till 1 has seen", "[0, 0, 33, 33]", () -> Picture.pairOf(m, 1, 0));
        check.is("has", "[231, 0, 0, 0]", () -> Picture.hasOf(m, 1, 0));
    }

    /** The first number stays on its way while the fifteen behind it get through. */
    private static void oneBehindFifteen(Check check, PantryMarket m, int first) {
        check.is("give " + first, first, () -> m.give(0, 1, 0, 100));
        for (int k = 1; k < 16; k++) {
            int number = first + k;
            check.is("give " + number, number, () -> m.give(0, 1, 0, 1));
            m.twice(1);
            check.is("its voucher", 1, () -> m.deliver(1));
            check.is("its voucher again", 0, () -> m.deliver(1));
            check.is("its receipt", 1, () -> m.deliver(1));
            check.is("its receipt again", 0, () -> m.deliver(1));
        }
        int next = first + 16;
        check.is("towards till 1", "[" + next + ", 1, 0, 0]", () -> Picture.pairOf(m, 0, 1));
        check.is("what till 1 has seen", "[0, 0, " + first + ", " + (first + 15) + "]", () -> Picture.pairOf(m, 1, 0));
        check.changesNothing("the next", m, () -> check.illegalState("the next", () -> m.give(0, 1, 0, 1)));
        check.is("on its way", "[100, 1000, 1000]", () -> Picture.totalsOf(m, 0));
        check.is("the first", 1, () -> m.deliver(0));
        check.is("the floor leaps", "[0, 0, " + next + ", " + next + "]", () -> Picture.pairOf(m, 1, 0));
        check.illegalState("the next before the receipt", () -> m.give(0, 1, 0, 1));
        check.is("the receipt", 1, () -> m.deliver(0));
    }

    private static void theirNumbersByPairs(Check check) {
        PantryMarket m = new PantryMarket(4);
        m.stock(0, 10);
        m.unsell(2, 0, 10);
        check.is("0 to 3", 0, () -> m.give(0, 3, 0, 1));
        check.is("2 to 3", 0, () -> m.give(2, 3, 0, 2));
        check.is("0 to 1", 0, () -> m.give(0, 1, 0, 3));
        check.is("0 to 3", 1, () -> m.give(0, 3, 0, 4));
        check.is("2 to 3's is new", 1, () -> m.deliver(1));
        check.is("0 to 3's number 0 is, too", 1, () -> m.deliver(0));
        check.is("3 of 0", "[0, 0, 1, 1]", () -> Picture.pairOf(m, 3, 0));
        check.is("3 of 2", "[0, 0, 1, 1]", () -> Picture.pairOf(m, 3, 2));
        check.is("0 of 3", "[2, 2, 0, 0]", () -> Picture.pairOf(m, 0, 3));
        check.is("on their way", "[7, 10, 10]", () -> Picture.totalsOf(m, 0));
        m.drop(0);
        m.drop(0);
        check.is("the receipt of 2's", 1, () -> m.deliver(0));
        check.is("2 of 3", "[1, 0, 0, 0]", () -> Picture.pairOf(m, 2, 3));
        check.is("0 of 3 has its own still", "[2, 2, 0, 0]", () -> Picture.pairOf(m, 0, 3));
    }

    private static void turnedRound(Check check) {
        PantryMarket m = new PantryMarket(2);
        m.stock(0, 10);
        m.give(0, 1, 0, 1);
        m.give(0, 1, 0, 2);
        m.give(0, 1, 0, 4);
        m.twice(2);
        check.is("number 2", 1, () -> m.deliver(2));
        check.is("number 2 again, above the floor", 0, () -> m.deliver(2));
        check.is("it is open, but seen", "[3, 10, 10]", () -> Picture.totalsOf(m, 0));
        m.drop(3);
        check.is("seen", "[0, 0, 0, 1]", () -> Picture.pairOf(m, 1, 0));
        check.is("number 0", 1, () -> m.deliver(0));
        check.is("seen", "[0, 0, 1, 2]", () -> Picture.pairOf(m, 1, 0));
        check.is("the receipt for 2", 1, () -> m.deliver(1));
        check.is("0 and 1 are open", "[3, 2, 0, 0]", () -> Picture.pairOf(m, 0, 1));
        check.is("1 is on its way", "[2, 10, 10]", () -> Picture.totalsOf(m, 0));
        m.tick(0, 1);
        check.is("0 and 1 are sent again", "0/0/1/0/0/1 0/0/1/1/0/2",
            () -> Picture.slotOf(m, 2) + " " + Picture.slotOf(m, 3));
        check.is("number 1", 1, () -> m.deliver(0));
        check.is("seen", "[0, 0, 3, 3]", () -> Picture.pairOf(m, 1, 0));
        check.is("has", "[7, 0, 0, 0]", () -> Picture.hasOf(m, 1, 0));
    }

    private static void giverSyncs(Check check) {
        PantryMarket m = new PantryMarket(2);
        m.stock(0, 10);
        m.sell(0, 0, 2);
        m.give(0, 1, 0, 3);
        m.sell(0, 0, 1);
        m.crash(0);
        check.is("as at the give", "[5, 2, 0, 0]", () -> Picture.hasOf(m, 0, 0));
        check.is("its voucher is open", "[1, 1, 0, 0]", () -> Picture.pairOf(m, 0, 1));
        check.is("totals", "[3, 10, 10]", () -> Picture.totalsOf(m, 0));
    }

    private static void receiverSyncs(Check check) {
        PantryMarket m = new PantryMarket(2);
        m.stock(0, 10);
        m.give(0, 1, 0, 3);
        m.unsell(1, 1, 7);
        m.twice(0);
        m.deliver(0);
        m.sell(1, 0, 1);
        check.is("an old voucher", 0, () -> m.deliver(0));
        m.crash(1);
        check.is("as at the new voucher", "[3, 0, 0, 0]", () -> Picture.hasOf(m, 1, 0));
        check.is("with all of the record", "[7, -7, 0, 0]", () -> Picture.hasOf(m, 1, 1));
        check.is("it has seen it", "[0, 0, 1, 1]", () -> Picture.pairOf(m, 1, 0));
    }

    private static void receiptIsNotSynced(Check check) {
        PantryMarket m = new PantryMarket(2);
        m.stock(0, 10);
        m.give(0, 1, 0, 3);
        m.deliver(0);
        m.deliver(0);
        check.is("none is open", 0, () -> m.look(4));
        m.crash(0);
        check.is("it is open again", "[1, 1, 0, 0]", () -> Picture.pairOf(m, 0, 1));
        check.is("but seen", "[0, 10, 10]", () -> Picture.totalsOf(m, 0));
        m.back(0);
        m.tick(0, 1);
        check.is("sent again", "0/0/1/0/0/3", () -> Picture.slotOf(m, 0));
        check.is("nothing new", 0, () -> m.deliver(0));
        check.is("its receipt", 1, () -> m.deliver(1));
        m.sync(0);
        m.crash(0);
        check.is("after a sync it stays so", "[1, 0, 0, 0]", () -> Picture.pairOf(m, 0, 1));
    }

    private static void whichOnesAreOpen(Check check) {
        PantryMarket m = new PantryMarket(2);
        for (int article = 0; article < 4; article++) {
            m.unsell(1, article, 100);
            m.give(1, 0, article, 11 + article);
        }
        check.is("on their way to the store", "[11, 0, 0] [14, 0, 0]",
            () -> Picture.totalsOf(m, 0) + " " + Picture.totalsOf(m, 3));
        check.is("and they are open", 4, () -> m.look(4));
        check.is("number 1", 1, () -> m.deliver(1));
        check.is("its receipt", 1, () -> m.deliver(3));
        sentAgain(check, m, "0/1/0/0/0/11", "0/1/0/2/2/13", "0/1/0/3/3/14");
        check.is("number 4 behind them", 4, () -> m.give(1, 0, 1, 12));
        sentAgain(check, m, "0/1/0/0/0/11", "0/1/0/2/2/13", "0/1/0/3/3/14", "0/1/0/4/1/12");
        check.is("number 0", 1, () -> m.deliver(0));
        check.is("its receipt", 1, () -> m.deliver(m.look(1) - 1));
        check.is("number 2", 1, () -> m.deliver(0));
        check.is("its receipt", 1, () -> m.deliver(m.look(1) - 1));
        sentAgain(check, m, "0/1/0/3/3/14", "0/1/0/4/1/12");
        m.crash(1);
        m.back(1);
        sentAgain(check, m, "0/1/0/0/0/11", "0/1/0/2/2/13", "0/1/0/3/3/14", "0/1/0/4/1/12");
    }

    /** Till 1 tells the net anew which vouchers it has open. */
    private static void sentAgain(Check check, PantryMarket m, String... want) {
        Markets.dropAll(m);
        m.tick(1, 1);
        for (int k = 0; k < want.length; k++) {
            int slot = k;
            check.is("what is sent again", want[slot], () -> Picture.slotOf(m, slot));
        }
        int vouchers = m.look(1) - (m.look(6) % 2 == 0 ? 1 : 0);
        check.is("how many are sent again", want.length, () -> vouchers);
    }

    private static void downReceiver(Check check) {
        PantryMarket m = new PantryMarket(2);
        m.stock(0, 10);
        m.give(0, 1, 0, 3);
        m.twice(0);
        m.crash(1);
        check.is("a till that is down", 0, () -> m.deliver(0));
        check.is("has nothing", "[0, 0, 0, 0]", () -> Picture.hasOf(m, 1, 0));
        check.is("sends no receipt", 1, () -> m.look(1));
        m.back(1);
        m.deliver(0);
        m.crash(0);
        check.is("a receipt for a till that is down", 0, () -> m.deliver(0));
        check.is("is lost", "[1, 1, 0, 0]", () -> Picture.pairOf(m, 0, 1));
        check.is("and out of the net", 0, () -> m.look(1));
    }

    private static void wrongPairs(Check check) {
        PantryMarket m = new PantryMarket(3);
        int[][] wrong = {{0, 0, 0}, {2, 2, 3}, {-1, 0, 0}, {0, -1, 0}, {3, 0, 0}, {0, 3, 0}, {0, 1, -1}, {0, 1, 4},
            {Integer.MIN_VALUE, 0, 0}, {0, Integer.MAX_VALUE, 0}, {0, 1, Integer.MAX_VALUE}};
        for (int[] w : wrong) {
            check.is("pair(" + w[0] + ", " + w[1] + ", " + w[2] + ")", -1, () -> m.pair(w[0], w[1], w[2]));
        }
    }

    private static void wrongTotals(Check check) {
        PantryMarket m = new PantryMarket(2);
        m.stock(3, 8);
        m.sell(0, 3, 1);
        m.broken(0, 3, 2);
        m.reserve(0, 3, 3, 5);
        m.give(0, 1, 3, 1);
        check.is("totals of 3", "[1, 8, 8]", () -> Picture.totalsOf(m, 3));
        check.is("totals of 0", "[0, 0, 0]", () -> Picture.totalsOf(m, 0));
        int[][] wrong = {{-1, 0}, {4, 0}, {3, -1}, {3, 3}, {Integer.MAX_VALUE, 1}, {3, Integer.MIN_VALUE}};
        for (int[] w : wrong) {
            check.is("total(" + w[0] + ", " + w[1] + ")", -1, () -> m.total(w[0], w[1]));
        }
    }
}
