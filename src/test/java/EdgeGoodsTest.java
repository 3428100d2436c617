import java.util.function.Function;
import java.util.function.Supplier;

/**
 * How many units there may be: "has not so many" of sell, broken, reserve and give, "more than 100000000 would be
 * BOOKED" of stock, "the share would be above 100000000" of unsell, "becomes units (0 .. 1000000)" and "whatever
 * BOOKED becomes" of counted, and "never below 0 but for SOLD".
 */
public final class EdgeGoodsTest {
    private static final int MILLION = 1000000;
    private static final int MOST = 100000000;

    public static void main(String[] args) {
        Check check = new Check();
        shareSuffices(check);
        emptyShare(check);
        sharesOfOtherArticlesAndTills(check);
        mostBooked(check);
        bookedOfEachArticle(check);
        bookedBeyondTheMost(check);
        bookedBelowNothing(check);
        stockBeyondTheMostShare(check);
        mostShare(check);
        shareBeyondTheMostByVouchers(check);
        shareBeyondTheMostByReservations(check);
        soldBelowNothing(check);
        countedToBothEnds(check);
        countedWithoutSync(check);
        check.end();
    }

    private static PantryMarket five(int till) {
        PantryMarket m = new PantryMarket(2);
        m.stock(0, 7);
        m.unsell(1, 0, 7);
        m.sync(1);
        m.sell(till, 0, 2);
        return m;
    }

    private static void shareSuffices(Check check) {
        for (int till = 0; till < 2; till++) {
            int t = till;
            Supplier<PantryMarket> made = () -> five(t);
            allOfIt(check, "sell all", t, m -> m.sell(t, 0, 5));
            allOfIt(check, "broken all", t, m -> m.broken(t, 0, 5));
            allOfIt(check, "reserve all", t, m -> m.reserve(t, 0, 5, 1));
            allOfIt(check, "give all", t, m -> m.give(t, 1 - t, 0, 5));
            check.refused("sell one more", Check.STATE, made, m -> m.sell(t, 0, 6));
            check.refused("broken one more", Check.STATE, made, m -> m.broken(t, 0, 6));
            check.refused("reserve one more", Check.STATE, made, m -> m.reserve(t, 0, 6, 1));
            check.refused("give one more", Check.STATE, made, m -> m.give(t, 1 - t, 0, 6));
            check.refused("sell a million", Check.STATE, made, m -> m.sell(t, 0, MILLION));
        }
    }

    /** The share is the store's or till 1's, and sell, broken, reserve and give all answer 0. */
    private static void allOfIt(Check check, String what, int till, Function<PantryMarket, ?> call) {
        PantryMarket m = five(till);
        check.is(what, 0, () -> call.apply(m));
        check.is(what + ": nothing is left", 0, () -> m.has(till, 0, 0));
        check.is(what + ": no unit is lost", "7 7", () -> m.total(0, 1) + " " + m.total(0, 2));
    }

    private static void emptyShare(Check check) {
        Supplier<PantryMarket> made = () -> new PantryMarket(2);
        for (int till = 0; till < 2; till++) {
            int t = till;
            check.refused("sell", Check.STATE, made, m -> m.sell(t, 0, 1));
            check.refused("broken", Check.STATE, made, m -> m.broken(t, 0, 1));
            check.refused("reserve", Check.STATE, made, m -> m.reserve(t, 0, 1, 1));
            check.refused("give", Check.STATE, made, m -> m.give(t, 1 - t, 0, 1));
        }
    }

    private static void sharesOfOtherArticlesAndTills(Check check) {
        Supplier<PantryMarket> made = () -> {
            PantryMarket m = Markets.busy(2);
            m.counted(1, 0);
            return m;
        };
        check.refused("sell what other articles have", Check.STATE, made, m -> m.sell(0, 1, 1));
        check.refused("broken what other articles have", Check.STATE, made, m -> m.broken(0, 1, 1));
        check.refused("reserve what other articles have", Check.STATE, made, m -> m.reserve(0, 1, 1, 1));
        check.refused("give what the other till has", Check.STATE, made, m -> m.give(0, 1, 1, 1));
    }

    /** Booked are all but so many of the most; some were sold behind the last SYNC, so that a SYNC would show. */
    private static PantryMarket bookedBut(int fewer) {
        PantryMarket m = new PantryMarket(2);
        for (int k = 0; k < 99; k++) {
            m.stock(1, MILLION);
        }
        m.stock(1, MILLION - fewer);
        m.sell(0, 1, 400);
        return m;
    }

    private static void mostBooked(Check check) {
        PantryMarket m = bookedBut(3);
        check.refused("4 more", Check.STATE, () -> bookedBut(3), x -> x.stock(1, 4));
        check.refused("a million more", Check.STATE, () -> bookedBut(3), x -> x.stock(1, MILLION));
        check.is("3 more", MOST - 400, () -> m.stock(1, 3));
        check.is("booked", MOST, () -> m.total(1, 2));
        check.refused("1 more", Check.STATE, () -> bookedBut(0), x -> x.stock(1, 1));
        PantryMarket fewer = bookedBut(0);
        fewer.counted(1, MILLION);
        check.is("booked after counting", MILLION + 400, () -> fewer.total(1, 2));
        check.is("there is room again", 2 * MILLION, () -> fewer.stock(1, MILLION));
    }

    private static void bookedOfEachArticle(Check check) {
        PantryMarket m = bookedBut(0);
        check.is("article 0", MILLION, () -> m.stock(0, MILLION));
        check.is("article 2", 1, () -> m.stock(2, 1));
        check.is("article 3", 1, () -> m.stock(3, 1));
    }

    /** "whatever BOOKED becomes": counting may lift it above the most, where stock is refused. */
    private static void bookedBeyondTheMost(Check check) {
        Supplier<PantryMarket> made = () -> {
            PantryMarket m = bookedBut(0);
            for (int k = 0; k < 99; k++) {
                m.broken(0, 1, MILLION);
            }
            m.counted(1, MILLION);
            return m;
        };
        PantryMarket m = made.get();
        check.is("booked", MOST + 400, () -> m.total(1, 2));
        check.is("and all is there", MOST + 400, () -> m.total(1, 1));
        check.refused("stock", Check.STATE, made, x -> x.stock(1, 1));
    }

    /** "whatever BOOKED becomes": counting may bring it below 0, and stock up again. */
    private static void bookedBelowNothing(Check check) {
        PantryMarket m = new PantryMarket(2);
        m.unsell(0, 2, 9);
        check.is("counted", -9, () -> m.counted(2, 0));
        check.is("booked", "[0, -9, -9]", () -> Picture.totalsOf(m, 2));
        check.is("stock", 4, () -> m.stock(2, 4));
        check.is("booked", "[0, -5, -5]", () -> Picture.totalsOf(m, 2));
        PantryMarket deep = new PantryMarket(2);
        for (int k = 0; k < 200; k++) {
            deep.unsell(0, 2, MILLION);
            deep.counted(2, 0);
        }
        check.is("booked", "[0, -200000000, -200000000]", () -> Picture.totalsOf(deep, 2));
        check.is("stock", MILLION, () -> deep.stock(2, MILLION));
    }

    private static PantryMarket shareBut(int till, int fewer) {
        PantryMarket m = new PantryMarket(2);
        for (int k = 0; k < 99; k++) {
            m.unsell(till, 3, MILLION);
        }
        m.sync(till);
        m.unsell(till, 3, MILLION - fewer);
        return m;
    }

    /** Only unsell asks how large the share would be, and only BOOKED binds stock. */
    private static void stockBeyondTheMostShare(Check check) {
        PantryMarket m = shareBut(0, 0);
        check.is("stock", MOST + MILLION, () -> m.stock(3, MILLION));
        check.is("booked", "[0, 1000000, 1000000]", () -> Picture.totalsOf(m, 3));
    }

    private static void mostShare(Check check) {
        for (int till = 0; till < 2; till++) {
            int t = till;
            PantryMarket m = shareBut(t, 3);
            check.refused("4 more", Check.STATE, () -> shareBut(t, 3), x -> x.unsell(t, 3, 4));
            check.refused("a million more", Check.STATE, () -> shareBut(t, 3), x -> x.unsell(t, 3, MILLION));
            check.is("3 more", MOST, () -> m.unsell(t, 3, 3));
            check.is("sold", -MOST, () -> m.has(t, 3, 1));
            check.refused("1 more", Check.STATE, () -> shareBut(t, 0), x -> x.unsell(t, 3, 1));
            check.is("of another article", 1, () -> m.unsell(t, 2, 1));
            check.is("at another till", 1, () -> m.unsell(1 - t, 3, 1));
            m.sell(t, 3, 1);
            check.is("after one is sold", MOST, () -> m.unsell(t, 3, 1));
        }
    }

    private static void shareBeyondTheMostByVouchers(Check check) {
        PantryMarket m = shareBut(1, 0);
        m.stock(3, MILLION);
        m.give(0, 1, 3, MILLION);
        check.is("the voucher", 1, () -> m.deliver(0));
        check.is("the share", MOST + MILLION, () -> m.has(1, 3, 0));
        check.is("no unit is lost", "[0, 1000000, 1000000]", () -> Picture.totalsOf(m, 3));
        check.illegalState("unsell", () -> m.unsell(1, 3, 1));
    }

    private static void shareBeyondTheMostByReservations(Check check) {
        PantryMarket m = shareBut(1, 0);
        m.reserve(1, 3, MILLION, 1);
        m.unsell(1, 3, MILLION);
        check.is("the reservation goes", 1, () -> m.tick(1, 1));
        check.is("the share", MOST + MILLION, () -> m.has(1, 3, 0));
        check.is("no unit is lost", "[0, 0, 0]", () -> Picture.totalsOf(m, 3));
    }

    private static void soldBelowNothing(Check check) {
        PantryMarket m = new PantryMarket(2);
        m.unsell(1, 0, 5);
        check.is("5 below", "[5, -5, 0, 0]", () -> Picture.hasOf(m, 1, 0));
        m.sell(1, 0, 2);
        check.is("3 below", "[3, -3, 0, 0]", () -> Picture.hasOf(m, 1, 0));
        m.reserve(1, 0, 3, 5);
        m.pick(1, 0);
        check.is("none", "[0, 0, 0, 0]", () -> Picture.hasOf(m, 1, 0));
    }

    private static void countedToBothEnds(Check check) {
        PantryMarket m = bookedBut(0);
        check.is("nothing is left", 400 - MOST, () -> m.counted(1, 0));
        check.is("has", "[0, 400, 0, 0]", () -> Picture.hasOf(m, 0, 1));
        check.is("booked", "[0, 400, 400]", () -> Picture.totalsOf(m, 1));
        check.is("nothing still", 0, () -> m.counted(1, 0));
        check.is("a million", MILLION, () -> m.counted(1, MILLION));
        check.is("a million still", 0, () -> m.counted(1, MILLION));
        check.is("one fewer", -1, () -> m.counted(1, MILLION - 1));
        check.is("booked", "[0, 1000399, 1000399]", () -> Picture.totalsOf(m, 1));
        check.is("other articles are as they were", "[0, 0, 0]", () -> Picture.totalsOf(m, 0));
    }

    private static void countedWithoutSync(Check check) {
        PantryMarket m = five(0);
        m.counted(0, 9);
        check.is("booked", "[0, 11, 11]", () -> Picture.totalsOf(m, 0));
        m.crash(0);
        check.is("share and sold as at the stock", "[7, 0, 0, 0]", () -> Picture.hasOf(m, 0, 0));
        check.is("booked as at the stock", "[0, 7, 7]", () -> Picture.totalsOf(m, 0));
    }
}
