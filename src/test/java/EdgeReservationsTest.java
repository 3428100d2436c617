import java.util.function.Supplier;

/**
 * "at most 6 RESERVATIONS", "reservations whose END is not above it go", "ticks is not 1 .. 100", "n TICKS, 0 .. 30",
 * "IDs are counted by each till from 0", and pick's "false if there is no such till or reservation".
 */
public final class EdgeReservationsTest {
    private static final String FULL = "[94, -100, 0, 6]";

    public static void main(String[] args) {
        Check check = new Check();
        sixth(check);
        placesByPick(check);
        placesByTheirEnd(check);
        placesByCrash(check);
        sixOfEachTill(check);
        shortest(check);
        longest(check);
        endsAreByTheClockOfTheMaking(check);
        allSixAtOnce(check);
        middleOnesGo(check);
        noTick(check);
        thirtyTicks(check);
        idsAreNotUsedAgain(check);
        picksThatAreRefused(check);
        check.end();
    }

    /** Till 1 with so many reservations of one unit each, which end at clocks 11, 12, ..; nothing of it is synced. */
    private static PantryMarket with(int reservations) {
        PantryMarket m = new PantryMarket(2);
        m.unsell(1, 2, 100);
        for (int k = 0; k < reservations; k++) {
            m.reserve(1, 2, 1, 11 + k);
        }
        return m;
    }

    private static void sixth(Check check) {
        PantryMarket m = with(5);
        check.is("the sixth", 5, () -> m.reserve(1, 2, 1, 1));
        check.is("has", FULL, () -> Picture.hasOf(m, 1, 2));
        check.refused("the seventh", Check.STATE, () -> with(6), x -> x.reserve(1, 2, 1, 1));
        check.refused("the seventh, of all units", Check.STATE, () -> with(6), x -> x.reserve(1, 2, 94, 1));
        check.refused("the seventh, of another article", Check.STATE, () -> {
            PantryMarket x = with(6);
            x.unsell(1, 0, 1);
            return x;
        }, x -> x.reserve(1, 0, 1, 1));
        check.refused("the seventh, for wrong ticks", Check.ARGUMENT, () -> with(6), x -> x.reserve(1, 2, 1, 0));
    }

    private static void placesByPick(Check check) {
        for (int id = 0; id < 6; id++) {
            int picked = id;
            PantryMarket m = with(6);
            check.is("pick(1, " + picked + ")", true, () -> m.pick(1, picked));
            check.is("one place", 6, () -> m.reserve(1, 2, 1, 1));
            check.illegalState("no more", () -> m.reserve(1, 2, 1, 1));
            check.is("has", "[93, -99, 0, 6]", () -> Picture.hasOf(m, 1, 2));
        }
    }

    private static void placesByTheirEnd(Check check) {
        PantryMarket m = with(6);
        check.is("before the first end", 0, () -> m.tick(1, 10));
        check.illegalState("no place", () -> m.reserve(1, 2, 1, 1));
        check.is("the first end", 1, () -> m.tick(1, 1));
        check.is("one place", 6, () -> m.reserve(1, 2, 1, 9));
        check.illegalState("no more", () -> m.reserve(1, 2, 1, 1));
    }

    /** A crash brings back as many as are kept: six, though two of them went since. */
    private static void placesByCrash(Check check) {
        Supplier<PantryMarket> made = () -> {
            PantryMarket m = with(6);
            m.sync(1);
            m.pick(1, 0);
            m.pick(1, 3);
            m.reserve(1, 2, 50, 2);
            m.crash(1);
            m.back(1);
            return m;
        };
        PantryMarket m = made.get();
        check.is("has", FULL, () -> Picture.hasOf(m, 1, 2));
        check.refused("the seventh", Check.STATE, made, x -> x.reserve(1, 2, 1, 1));
        check.is("pick(1, 0)", true, () -> m.pick(1, 0));
        check.is("pick(1, 3)", true, () -> m.pick(1, 3));
        check.is("what was not kept is gone", false, () -> m.pick(1, 6));
        check.is("and its ID is next again", 6, () -> m.reserve(1, 2, 1, 1));
        PantryMarket ending = made.get();
        check.is("before the first end", 0, () -> ending.tick(1, 10));
        for (int clock = 11; clock <= 16; clock++) {
            check.is("each has its end as kept, one at " + clock, 1, () -> ending.tick(1, 1));
        }
        check.is("has", "[100, -100, 0, 0]", () -> Picture.hasOf(ending, 1, 2));
    }

    private static void sixOfEachTill(Check check) {
        PantryMarket m = with(6);
        m.stock(2, 6);
        for (int k = 0; k < 6; k++) {
            int id = k;
            check.is("the store's reservation " + id, id, () -> m.reserve(0, 2, 1, 1));
        }
        check.is("has", "[0, 0, 0, 6]", () -> Picture.hasOf(m, 0, 2));
        check.illegalState("its seventh", () -> m.reserve(0, 2, 1, 1));
    }

    private static void shortest(Check check) {
        PantryMarket m = with(0);
        m.reserve(1, 2, 4, 1);
        check.is("has", "[96, -100, 0, 4]", () -> Picture.hasOf(m, 1, 2));
        check.is("the first tick", 1, () -> m.tick(1, 1));
        check.is("has", "[100, -100, 0, 0]", () -> Picture.hasOf(m, 1, 2));
        check.is("it went once", 0, () -> m.tick(1, 1));
        m.crash(1);
        check.is("that it went was not synced, nor anything else", "[0, 0, 0, 0]", () -> Picture.hasOf(m, 1, 2));
    }

    private static void longest(Check check) {
        PantryMarket m = with(0);
        m.reserve(1, 2, 4, 100);
        for (int k = 0; k < 3; k++) {
            check.is("30 ticks", 0, () -> m.tick(1, 30));
        }
        check.is("9 ticks", 0, () -> m.tick(1, 9));
        check.is("has at clock 99", "[96, -100, 0, 4]", () -> Picture.hasOf(m, 1, 2));
        check.is("the hundredth", 1, () -> m.tick(1, 1));
        check.is("has at clock 100", "[100, -100, 0, 0]", () -> Picture.hasOf(m, 1, 2));
    }

    private static void endsAreByTheClockOfTheMaking(Check check) {
        PantryMarket m = with(0);
        m.tick(1, 20);
        m.tick(0, 7);
        m.reserve(1, 2, 4, 3);
        check.is("2 ticks", 0, () -> m.tick(1, 2));
        check.is("another till's ticks", 0, () -> m.tick(0, 30));
        check.is("the third", 1, () -> m.tick(1, 1));
        check.is("the clock", 23, () -> m.look(6));
    }

    private static void allSixAtOnce(Check check) {
        PantryMarket m = with(0);
        for (int article = 0; article < 4; article++) {
            m.unsell(1, article, 10);
        }
        for (int k = 0; k < 6; k++) {
            m.reserve(1, k % 4, 1 + k, 2);
        }
        check.is("before", 0, () -> m.tick(1, 1));
        check.is("all", 6, () -> m.tick(1, 1));
        for (int article = 0; article < 4; article++) {
            int a = article;
            check.is("has of " + a, a == 2 ? "[110, -110, 0, 0]" : "[10, -10, 0, 0]", () -> Picture.hasOf(m, 1, a));
        }
    }

    /** Those that stay keep their IDs, units and ends, wherever the gaps are. */
    private static void middleOnesGo(Check check) {
        PantryMarket m = with(0);
        int[] ticks = {9, 1, 9, 1, 1, 8};
        for (int k = 0; k < 6; k++) {
            m.reserve(1, 2, 1 << k, ticks[k]);
        }
        check.is("three go", 3, () -> m.tick(1, 1));
        check.is("has", "[63, -100, 0, 37]", () -> Picture.hasOf(m, 1, 2));
        check.is("one that went", false, () -> m.pick(1, 3));
        check.is("one that stays", true, () -> m.pick(1, 2));
        check.is("has", "[63, -96, 0, 33]", () -> Picture.hasOf(m, 1, 2));
        check.is("up to clock 7", 0, () -> m.tick(1, 6));
        check.is("clock 8", 1, () -> m.tick(1, 1));
        check.is("has", "[95, -96, 0, 1]", () -> Picture.hasOf(m, 1, 2));
        check.is("clock 9", 1, () -> m.tick(1, 1));
    }

    /** "n TICKS, 0 .. 30": none is allowed and does nothing at all. */
    private static void noTick(Check check) {
        check.refused("no tick", 0, () -> Markets.busy(3), m -> m.tick(0, 0));
    }

    private static void thirtyTicks(Check check) {
        PantryMarket m = with(6);
        check.is("30 ticks", 6, () -> m.tick(1, 30));
        check.is("the clock", 30, () -> m.look(6));
        check.is("the other clock", 0, () -> m.look(5));
        check.is("has", "[100, -100, 0, 0]", () -> Picture.hasOf(m, 1, 2));
    }

    private static void idsAreNotUsedAgain(Check check) {
        PantryMarket m = with(0);
        for (int k = 0; k < 40; k++) {
            int id = k;
            check.is("reserve", id, () -> m.reserve(1, 2, 1, 1));
            if (id % 2 == 0) {
                check.is("pick", true, () -> m.pick(1, id));
            } else {
                check.is("tick", 1, () -> m.tick(1, 1));
            }
            check.is("gone", false, () -> m.pick(1, id));
        }
        check.is("has", "[80, -80, 0, 0]", () -> Picture.hasOf(m, 1, 2));
    }

    private static void picksThatAreRefused(Check check) {
        Supplier<PantryMarket> made = () -> {
            PantryMarket m = with(6);
            m.pick(1, 2);
            return m;
        };
        for (int id : new int[] {-1, 2, 6, Integer.MIN_VALUE, Integer.MAX_VALUE}) {
            check.refused("pick(1, " + id + ")", false, made, m -> m.pick(1, id));
        }
        check.refused("a pick where there is none", false, () -> with(0), m -> m.pick(1, 0));
        check.refused("a pick at another till", false, made, m -> m.pick(0, 0));
        PantryMarket m = made.get();
        check.is("the first", true, () -> m.pick(1, 0));
        check.is("the last", true, () -> m.pick(1, 5));
        check.is("has", "[94, -97, 0, 3]", () -> Picture.hasOf(m, 1, 2));
    }
}
