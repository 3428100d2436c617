/** Promises 6 reserve, 7 pick and what tick (8) does to reservations. */
public final class ReservationTest {
    public static void main(String[] args) {
        Check check = new Check();
        reserve(check);
        sixAtMost(check);
        pick(check);
        theirEnd(check);
        wrongTicks(check);
        crashTakesThemBack(check);
        check.end();
    }

    private static void reserve(Check check) {
        PantryMarket m = new PantryMarket(2);
        m.stock(0, 10);
        m.unsell(1, 0, 10);
        check.is("reserve(0, 0, 4, 1)", 0, () -> m.reserve(0, 0, 4, 1));
        check.is("reserve(0, 0, 1, 100)", 1, () -> m.reserve(0, 0, 1, 100));
        check.is("the other till counts its own", 0, () -> m.reserve(1, 0, 1, 1));
        check.changesNothing("a reservation that is refused", m, () -> {
            check.illegalState("too many units", () -> m.reserve(0, 0, 6, 1));
            check.illegalState("no units", () -> m.reserve(0, 1, 1, 1));
            check.illegalArgument("0 ticks", () -> m.reserve(0, 0, 1, 0));
            check.illegalArgument("-1 ticks", () -> m.reserve(0, 0, 1, -1));
            check.illegalArgument("101 ticks", () -> m.reserve(0, 0, 1, 101));
            check.illegalArgument("most ticks", () -> m.reserve(0, 0, 1, Integer.MAX_VALUE));
            check.illegalArgument("0 ticks and too many units", () -> m.reserve(0, 0, 6, 0));
        });
        check.is("what is refused takes no ID", 2, () -> m.reserve(0, 0, 5, 1));
        check.is("has", "[0, 0, 0, 10]", () -> Picture.hasOf(m, 0, 0));
        check.is("totals", "[0, 10, 10]", () -> Picture.totalsOf(m, 0));
        m.crash(0);
        check.illegalState("a till that is down", () -> m.reserve(0, 0, 1, 1));
        check.illegalArgument("and wrong units", () -> m.reserve(0, 0, 0, 1));
    }

    private static void sixAtMost(Check check) {
        PantryMarket m = new PantryMarket(2);
        m.stock(1, 100);
        for (int k = 0; k < 6; k++) {
            int id = k;
            check.is("reservation " + k, id, () -> m.reserve(0, 1, 1, 9));
        }
        check.changesNothing("the seventh", m,
            () -> check.illegalState("the seventh", () -> m.reserve(0, 1, 1, 9)));
        m.pick(0, 2);
        check.is("one place is free", 6, () -> m.reserve(0, 1, 1, 9));
        check.illegalState("and no more", () -> m.reserve(0, 1, 1, 9));
    }

    private static void pick(Check check) {
        PantryMarket m = new PantryMarket(2);
        m.stock(0, 10);
        m.stock(3, 10);
        m.reserve(0, 0, 4, 5);
        m.reserve(0, 3, 5, 5);
        m.reserve(0, 0, 6, 5);
        check.changesNothing("a pick that is refused", m, () -> {
            check.is("no such till", false, () -> m.pick(-1, 0));
            check.is("no such till", false, () -> m.pick(2, 0));
            check.is("no such reservation", false, () -> m.pick(0, 3));
            check.is("no such reservation", false, () -> m.pick(0, -1));
            check.is("another till's reservation", false, () -> m.pick(1, 0));
        });
        check.is("pick(0, 1)", true, () -> m.pick(0, 1));
        check.is("its article", "[5, 5, 0, 0]", () -> Picture.hasOf(m, 0, 3));
        check.is("the others", "[0, 0, 0, 10]", () -> Picture.hasOf(m, 0, 0));
        check.is("pick(0, 1) again", false, () -> m.pick(0, 1));
        check.is("pick(0, 2)", true, () -> m.pick(0, 2));
        check.is("its units", "[0, 6, 0, 4]", () -> Picture.hasOf(m, 0, 0));
        m.sync(0);
        check.is("pick(0, 0)", true, () -> m.pick(0, 0));
        m.crash(0);
        check.is("pick does not sync", "[0, 6, 0, 4]", () -> Picture.hasOf(m, 0, 0));
        check.is("a till that is down", false, () -> m.pick(0, 0));
        check.is("has", "[0, 6, 0, 4]", () -> Picture.hasOf(m, 0, 0));
        m.back(0);
        check.is("pick(0, 0)", true, () -> m.pick(0, 0));
    }

    private static void theirEnd(Check check) {
        PantryMarket m = new PantryMarket(2);
        m.stock(0, 100);
        m.tick(0, 3);
        m.reserve(0, 0, 1, 2);
        m.reserve(0, 0, 2, 1);
        m.reserve(0, 0, 4, 2);
        m.reserve(0, 0, 8, 100);
        check.is("tick(0, 0)", 0, () -> m.tick(0, 0));
        check.is("has", "[85, 0, 0, 15]", () -> Picture.hasOf(m, 0, 0));
        check.is("the first end", 1, () -> m.tick(0, 1));
        check.is("has", "[87, 0, 0, 13]", () -> Picture.hasOf(m, 0, 0));
        check.is("the second end", 2, () -> m.tick(0, 1));
        check.is("has", "[92, 0, 0, 8]", () -> Picture.hasOf(m, 0, 0));
        check.is("of those that went none can be picked", false, () -> m.pick(0, 0));
        check.is("another till's ticks", 0, () -> m.tick(1, 30));
        m.tick(0, 30);
        m.tick(0, 30);
        m.tick(0, 30);
        check.is("up to the last tick but one", 0, () -> m.tick(0, 7));
        check.is("the last end", 1, () -> m.tick(0, 1));
        check.is("has", "[100, 0, 0, 0]", () -> Picture.hasOf(m, 0, 0));
        check.is("the clock", 103, () -> m.look(5));
        severalTicksAtOnce(check);
    }

    private static void severalTicksAtOnce(Check check) {
        PantryMarket m = new PantryMarket(2);
        m.unsell(1, 2, 100);
        for (int k = 1; k <= 6; k++) {
            m.reserve(1, 2, k, k);
        }
        check.is("tick(1, 5)", 5, () -> m.tick(1, 5));
        check.is("has", "[94, -100, 0, 6]", () -> Picture.hasOf(m, 1, 2));
        m.crash(1);
        check.is("a tick does not sync", "[0, 0, 0, 0]", () -> Picture.hasOf(m, 1, 2));
        check.is("its clock", 0, () -> m.look(6));
    }

    private static void wrongTicks(Check check) {
        PantryMarket m = new PantryMarket(2);
        m.stock(0, 5);
        m.reserve(0, 0, 5, 1);
        check.changesNothing("wrong ticks", m, () -> {
            check.illegalArgument("tick(0, -1)", () -> m.tick(0, -1));
            check.illegalArgument("tick(0, 31)", () -> m.tick(0, 31));
            check.illegalArgument("tick(-1, 1)", () -> m.tick(-1, 1));
            check.illegalArgument("tick(2, 1)", () -> m.tick(2, 1));
        });
        m.crash(0);
        check.changesNothing("ticks of a till that is down", m, () -> {
            check.illegalState("tick(0, 1)", () -> m.tick(0, 1));
            check.illegalState("tick(0, 0)", () -> m.tick(0, 0));
            check.illegalArgument("tick(0, 31)", () -> m.tick(0, 31));
        });
        check.is("tick(1, 30)", 0, () -> m.tick(1, 30));
        check.is("its clock", 30, () -> m.look(6));
    }

    private static void crashTakesThemBack(Check check) {
        PantryMarket m = new PantryMarket(2);
        m.stock(0, 10);
        m.reserve(0, 0, 1, 5);
        m.sync(0);
        check.is("reserve(0, 0, 2, 5)", 1, () -> m.reserve(0, 0, 2, 5));
        m.pick(0, 0);
        m.crash(0);
        m.back(0);
        check.is("as at the sync", "[9, 0, 0, 1]", () -> Picture.hasOf(m, 0, 0));
        check.is("the next ID too", 1, () -> m.reserve(0, 0, 3, 5));
        check.is("pick(0, 0)", true, () -> m.pick(0, 0));
        check.is("pick(0, 1)", true, () -> m.pick(0, 1));
        check.is("has", "[6, 4, 0, 0]", () -> Picture.hasOf(m, 0, 0));
        keptWithArticleAndEnd(check);
    }

    private static void keptWithArticleAndEnd(Check check) {
        PantryMarket m = new PantryMarket(2);
        m.stock(3, 10);
        m.reserve(0, 3, 1, 5);
        m.reserve(0, 3, 2, 3);
        m.sync(0);
        check.is("both go", 2, () -> m.tick(0, 5));
        m.crash(0);
        m.back(0);
        check.is("both are there again", "[7, 0, 0, 3]", () -> Picture.hasOf(m, 0, 3));
        check.is("before an end", 0, () -> m.tick(0, 2));
        check.is("the first end", 1, () -> m.tick(0, 1));
        check.is("has", "[9, 0, 0, 1]", () -> Picture.hasOf(m, 0, 3));
        check.is("before the other end", 0, () -> m.tick(0, 1));
        check.is("the other end", 1, () -> m.tick(0, 1));
    }
}
