/** Promises 2 stock, 3 sell, 4 unsell, 5 broken, 11 counted and 19 has. */
public final class GoodsTest {
    public static void main(String[] args) {
        Check check = new Check();
        stock(check);
        mostBooked(check);
        sell(check);
        unsell(check);
        mostShare(check);
        broken(check);
        counted(check);
        wrongGoods(check);
        downTill(check);
        has(check);
        check.end();
    }

    private static void stock(Check check) {
        PantryMarket m = new PantryMarket(2);
        check.is("stock(3, 1)", 1, () -> m.stock(3, 1));
        check.is("stock(3, 1000000)", 1000001, () -> m.stock(3, 1000000));
        check.is("stock(0, 7)", 7, () -> m.stock(0, 7));
        check.is("the store's", "[1000001, 0, 0, 0]", () -> Picture.hasOf(m, 0, 3));
        check.is("the other till's", "[0, 0, 0, 0]", () -> Picture.hasOf(m, 1, 3));
        check.is("booked", "[0, 1000001, 1000001]", () -> Picture.totalsOf(m, 3));
        m.sell(0, 3, 2);
        m.stock(0, 1);
        m.crash(0);
        check.is("stock has synced all of the record", "[999999, 2, 0, 0]", () -> Picture.hasOf(m, 0, 3));
        check.is("and what was booked", 8, () -> m.total(0, 2));
    }

    private static void mostBooked(Check check) {
        PantryMarket m = new PantryMarket(2);
        for (int k = 0; k < 99; k++) {
            m.stock(1, 1000000);
        }
        m.sell(0, 1, 1000000);
        m.stock(1, 999999);
        check.changesNothing("stock beyond 100000000 booked", m,
            () -> check.illegalState("stock(1, 2)", () -> m.stock(1, 2)));
        check.is("stock(1, 1) up to 100000000 booked", 99000000, () -> m.stock(1, 1));
        check.illegalState("stock(1, 1)", () -> m.stock(1, 1));
        check.is("another article", 1, () -> m.stock(2, 1));
        m.counted(1, 1000000);
        check.is("after counting there is room again", 2000000, () -> m.stock(1, 1000000));
    }

    private static void sell(Check check) {
        PantryMarket m = new PantryMarket(3);
        m.stock(2, 10);
        check.is("sell(0, 2, 4)", 6, () -> m.sell(0, 2, 4));
        check.changesNothing("selling too many", m, () -> check.illegalState("sell(0, 2, 7)", () -> m.sell(0, 2, 7)));
        check.is("sell(0, 2, 6)", 0, () -> m.sell(0, 2, 6));
        check.illegalState("sell(0, 2, 1)", () -> m.sell(0, 2, 1));
        check.illegalState("sell(2, 2, 1)", () -> m.sell(2, 2, 1));
        check.is("has", "[0, 10, 0, 0]", () -> Picture.hasOf(m, 0, 2));
        m.crash(0);
        check.is("sell does not sync", "[10, 0, 0, 0]", () -> Picture.hasOf(m, 0, 2));
    }

    private static void unsell(Check check) {
        PantryMarket m = new PantryMarket(2);
        check.is("unsell(1, 0, 3)", 3, () -> m.unsell(1, 0, 3));
        check.is("sold is below 0", "[3, -3, 0, 0]", () -> Picture.hasOf(m, 1, 0));
        check.is("nothing is booked", "[0, 0, 0]", () -> Picture.totalsOf(m, 0));
        check.is("unsell(1, 0, 1000000)", 1000003, () -> m.unsell(1, 0, 1000000));
        m.crash(1);
        check.is("unsell does not sync", "[0, 0, 0, 0]", () -> Picture.hasOf(m, 1, 0));
    }

    private static void mostShare(Check check) {
        PantryMarket m = new PantryMarket(2);
        for (int k = 0; k < 99; k++) {
            m.unsell(1, 3, 1000000);
        }
        m.unsell(1, 3, 999999);
        check.changesNothing("a share above 100000000", m,
            () -> check.illegalState("unsell(1, 3, 2)", () -> m.unsell(1, 3, 2)));
        check.is("unsell(1, 3, 1)", 100000000, () -> m.unsell(1, 3, 1));
        check.illegalState("unsell(1, 3, 1)", () -> m.unsell(1, 3, 1));
        m.stock(3, 5);
        m.give(0, 1, 3, 5);
        m.deliver(0);
        check.is("a voucher may go beyond", "[100000005, -100000000, 0, 0]", () -> Picture.hasOf(m, 1, 3));
        check.illegalState("unsell(1, 3, 1)", () -> m.unsell(1, 3, 1));
    }

    private static void broken(Check check) {
        PantryMarket m = new PantryMarket(2);
        m.stock(1, 9);
        check.is("broken(0, 1, 2)", 7, () -> m.broken(0, 1, 2));
        check.changesNothing("breaking too many", m,
            () -> check.illegalState("broken(0, 1, 8)", () -> m.broken(0, 1, 8)));
        check.is("broken(0, 1, 7)", 0, () -> m.broken(0, 1, 7));
        check.is("has", "[0, 0, 9, 0]", () -> Picture.hasOf(m, 0, 1));
        check.is("totals", "[0, 9, 9]", () -> Picture.totalsOf(m, 1));
        m.crash(0);
        check.is("broken does not sync", "[9, 0, 0, 0]", () -> Picture.hasOf(m, 0, 1));
    }

    private static void counted(Check check) {
        PantryMarket m = new PantryMarket(2);
        m.stock(0, 10);
        m.sell(0, 0, 4);
        check.is("counted(0, 0)", -6, () -> m.counted(0, 0));
        check.is("booked", "[0, 4, 4]", () -> Picture.totalsOf(m, 0));
        check.is("counted(0, 1000000)", 1000000, () -> m.counted(0, 1000000));
        check.is("counted(0, 1000000)", 0, () -> m.counted(0, 1000000));
        check.changesNothing("a wrong count", m, () -> {
            check.illegalArgument("counted(0, -1)", () -> m.counted(0, -1));
            check.illegalArgument("counted(0, 1000001)", () -> m.counted(0, 1000001));
            check.illegalArgument("counted(-1, 5)", () -> m.counted(-1, 5));
            check.illegalArgument("counted(4, 5)", () -> m.counted(4, 5));
        });
        m.crash(0);
        check.is("counted does not sync", "[10, 0, 0, 0]", () -> Picture.hasOf(m, 0, 0));
        check.is("nor is it booked then", "[0, 10, 10]", () -> Picture.totalsOf(m, 0));
        check.illegalState("counted(0, 5)", () -> m.counted(0, 5));
        check.illegalArgument("counted(4, 5)", () -> m.counted(4, 5));
        m.back(0);
        m.unsell(0, 1, 5);
        m.counted(1, 0);
        check.is("booked can be below 0", "[0, -5, -5]", () -> Picture.totalsOf(m, 1));
        bookedBeyondTheMost(check);
    }

    private static void bookedBeyondTheMost(Check check) {
        PantryMarket m = new PantryMarket(2);
        for (int k = 0; k < 100; k++) {
            m.stock(1, 1000000);
        }
        for (int k = 0; k < 100; k++) {
            m.sell(0, 1, 1000000);
        }
        check.is("counted(1, 1000000)", 1000000, () -> m.counted(1, 1000000));
        check.is("booked is above 100000000", "[0, 101000000, 101000000]", () -> Picture.totalsOf(m, 1));
        check.illegalState("stock(1, 1)", () -> m.stock(1, 1));
    }

    private static void wrongGoods(Check check) {
        PantryMarket m = new PantryMarket(3);
        for (int article = 0; article < 4; article++) {
            m.stock(article, 1000000);
            m.stock(article, 1000000);
        }
        int[][] wrong = {{-1, 0, 1}, {3, 0, 1}, {5, 0, 1}, {0, -1, 1}, {0, 4, 1}, {0, 0, 0}, {0, 0, -1},
            {0, 0, 1000001}, {0, 0, Integer.MIN_VALUE}, {0, 0, Integer.MAX_VALUE}, {Integer.MAX_VALUE, 0, 1},
            {Integer.MIN_VALUE, 0, 1}, {0, Integer.MAX_VALUE, 1}, {0, Integer.MIN_VALUE, 1}};
        check.changesNothing("wrong goods", m, () -> {
            for (int[] w : wrong) {
                String args = "(" + w[0] + ", " + w[1] + ", " + w[2] + ")";
                check.illegalArgument("sell" + args, () -> m.sell(w[0], w[1], w[2]));
                check.illegalArgument("unsell" + args, () -> m.unsell(w[0], w[1], w[2]));
                check.illegalArgument("broken" + args, () -> m.broken(w[0], w[1], w[2]));
                check.illegalArgument("reserve" + args, () -> m.reserve(w[0], w[1], w[2], 1));
                check.illegalArgument("give" + args, () -> m.give(w[0], 1, w[1], w[2]));
                check.illegalArgument("ask" + args, () -> m.ask(w[0], w[1], w[2]));
                if (w[0] == 0) {
                    check.illegalArgument("stock" + args, () -> m.stock(w[1], w[2]));
                }
            }
        });
    }

    private static void downTill(Check check) {
        PantryMarket m = new PantryMarket(3);
        m.stock(0, 50);
        m.crash(0);
        check.changesNothing("a call to a till that is down", m, () -> {
            check.illegalState("stock(0, 1)", () -> m.stock(0, 1));
            check.illegalState("sell(0, 0, 1)", () -> m.sell(0, 0, 1));
            check.illegalState("unsell(0, 0, 1)", () -> m.unsell(0, 0, 1));
            check.illegalState("broken(0, 0, 1)", () -> m.broken(0, 0, 1));
            check.illegalState("counted(0, 1)", () -> m.counted(0, 1));
            check.illegalArgument("stock(0, 0)", () -> m.stock(0, 0));
            check.illegalArgument("sell(0, 0, 0)", () -> m.sell(0, 0, 0));
        });
        check.is("another till goes on", 1, () -> m.unsell(1, 0, 1));
        m.back(0);
        check.is("sell(0, 0, 1)", 49, () -> m.sell(0, 0, 1));
    }

    private static void has(Check check) {
        PantryMarket m = new PantryMarket(2);
        m.stock(2, 100);
        m.sell(0, 2, 1);
        m.broken(0, 2, 20);
        m.reserve(0, 2, 3, 5);
        m.reserve(0, 2, 4, 5);
        check.is("has", "[72, 1, 20, 7]", () -> Picture.hasOf(m, 0, 2));
        check.is("has", "[0, 0, 0, 0]", () -> Picture.hasOf(m, 0, 1));
        int[][] wrong = {{-1, 0, 0}, {2, 0, 0}, {0, -1, 0}, {0, 4, 0}, {0, 0, -1}, {0, 0, 4},
            {Integer.MAX_VALUE, 0, 0}, {0, Integer.MIN_VALUE, 0}, {0, 0, Integer.MAX_VALUE}};
        for (int[] w : wrong) {
            check.outOfBounds("has(" + w[0] + ", " + w[1] + ", " + w[2] + ")", () -> m.has(w[0], w[1], w[2]));
        }
    }
}
