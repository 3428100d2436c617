import java.util.ArrayList;
import java.util.List;
import java.util.function.Function;
import java.util.function.Supplier;

/**
 * "THE NET has at most 24 MESSAGES", "one more goes to the end, but is lost if there are 24", "When one is taken out
 * those behind it move up", and the slots that deliver, drop, twice and slot refuse.
 */
public final class EdgeNetTest {
    private static final String FULL_BUT_ONE = "23 messages, 0 lost";

    public static void main(String[] args) {
        Check check = new Check();
        lastPlaceForVoucher(check);
        lastPlaceForAsk(check);
        lastPlaceForNews(check);
        lastPlaceForVoucherAgain(check);
        partOfATick(check);
        ticksIntoAFullNet(check);
        lastPlaceForTwice(check);
        answersHaveTheirPlace(check);
        withoutAnswerThereIsRoom(check);
        takenOut(check);
        noSuchSlot(check);
        lostOnesAreNotCountedOtherwise(check);
        check.end();
    }

    /** Till 1 of two has sent so many news, with stamps 0, 1, ..; the store has 100 of article 0, of which 1 knows. */
    private static PantryMarket news(int messages) {
        PantryMarket m = new PantryMarket(2);
        m.stock(0, 100);
        Markets.tellAll(m, 0);
        for (int k = 0; k < messages; k++) {
            m.tick(1, 2);
        }
        m.sell(0, 0, 1);
        return m;
    }

    private static String inNet(PantryMarket m) {
        return m.look(1) + " messages, " + m.look(2) + " lost";
    }

    private static List<String> all(PantryMarket m) {
        List<String> all = new ArrayList<>();
        for (int slot = 0; slot < m.look(1); slot++) {
            all.add(Picture.slotOf(m, slot));
        }
        return all;
    }

    /** Where the call finds 23 messages its own is the last one; where it finds 24 these stay, and it is lost. */
    private static void lastPlace(Check check, String what, Object answer, String message,
            Function<PantryMarket, ?> call) {
        PantryMarket m = news(23);
        check.is("before", FULL_BUT_ONE, () -> inNet(m));
        check.is(what, answer, () -> call.apply(m));
        check.is(what + " is the last one", message, () -> Picture.slotOf(m, 23));
        check.is(what + " has a place", "24 messages, 0 lost", () -> inNet(m));
        PantryMarket full = news(24);
        List<String> before = all(full);
        check.is(what + " in a full net", answer, () -> call.apply(full));
        check.is(what + " has none", "24 messages, 1 lost", () -> inNet(full));
        check.is(what + " pushes none out", before, () -> all(full));
        check.is("the tills are as if it had a place", tills(m), () -> tills(full));
    }

    /** The records without till 1's clock, which counts how full the net was made. */
    private static String tills(PantryMarket m) {
        String second = Picture.ofRecord(m, 1);
        return Picture.ofRecord(m, 0) + second.substring(second.indexOf('['));
    }

    private static void lastPlaceForVoucher(Check check) {
        lastPlace(check, "a voucher", 0, "0/0/1/0/0/7", m -> m.give(0, 1, 0, 7));
    }

    private static void lastPlaceForAsk(Check check) {
        lastPlace(check, "an ask", 0, "3/1/0/0/7/-1", m -> m.ask(1, 0, 7));
    }

    /** The store has told all in eight ticks; the ninth tells of article 0 again. */
    private static void lastPlaceForNews(Check check) {
        lastPlace(check, "news", 0, "2/0/1/0/99/4", m -> m.tick(0, 1));
        PantryMarket full = news(24);
        full.tick(0, 1);
        full.drop(0);
        full.tick(0, 2);
        check.is("lost news have taken their stamp", "2/0/1/1/0/5", () -> Picture.slotOf(full, 23));
    }

    private static void lastPlaceForVoucherAgain(Check check) {
        PantryMarket m = news(22);
        m.give(0, 1, 0, 7);
        m.tick(0, 1);
        check.is("there is room for the voucher, not for the news", "24 messages, 1 lost", () -> inNet(m));
        check.is("the voucher", "0/0/1/0/0/7", () -> Picture.slotOf(m, 23));
        m.tick(0, 1);
        check.is("there is no room", "24 messages, 2 lost", () -> inNet(m));
        check.is("it is open as before", "[1, 1, 0, 0]", () -> Picture.pairOf(m, 0, 1));
    }

    /** Sent are, by tills and numbers, the open vouchers, then news; the first ones get the places that are left. */
    private static void partOfATick(Check check) {
        String[] sent = {"0/0/1/0/2/1", "0/0/1/1/2/4", "0/0/2/0/2/2", "0/0/2/1/2/3", "2/0/1/0/0/0"};
        for (int places = 0; places <= 6; places++) {
            PantryMarket m = new PantryMarket(3);
            m.stock(2, 50);
            m.give(0, 1, 2, 1);
            m.give(0, 2, 2, 2);
            m.give(0, 2, 2, 3);
            m.give(0, 1, 2, 4);
            Markets.fillNet(m, 24 - places);
            m.tick(0, 1);
            int fit = Math.min(places, 5);
            check.is("with " + places + " places", 24 - places + fit + " messages, " + (5 - fit) + " lost",
                () -> inNet(m));
            for (int k = 0; k < fit; k++) {
                int at = k;
                int slot = 24 - places + k;
                check.is("message " + at, sent[at], () -> Picture.slotOf(m, slot));
            }
        }
    }

    private static void ticksIntoAFullNet(Check check) {
        PantryMarket m = news(0);
        m.give(0, 1, 0, 1);
        m.give(0, 1, 0, 1);
        m.tick(0, 30);
        check.is("2 + 30 * 2 + 15 messages", "24 messages, 53 lost", () -> inNet(m));
        check.is("the clock", 38, () -> m.look(5));
    }

    private static void lastPlaceForTwice(Check check) {
        for (int slot : new int[] {0, 11, 22}) {
            PantryMarket m = news(23);
            List<String> due = all(m);
            due.add(due.get(slot));
            check.is("twice(" + slot + ") of 23", true, () -> m.twice(slot));
            check.is("the messages", due, () -> all(m));
        }
        for (int slot : new int[] {0, 11, 23}) {
            check.refused("twice(" + slot + ") of 24", false, () -> news(24), m -> m.twice(slot));
        }
        PantryMarket m = news(24);
        m.drop(5);
        check.is("after a drop", true, () -> m.twice(3));
        check.is("once", false, () -> m.twice(3));
        check.is("nothing is lost", "24 messages, 0 lost", () -> inNet(m));
    }

    /** DELIVERING takes a message out first, so a receipt, or the voucher for an ask, is not lost in a full net. */
    private static void answersHaveTheirPlace(Check check) {
        PantryMarket m = news(22);
        m.give(0, 1, 0, 7);
        m.twice(22);
        check.is("a new voucher", 1, () -> m.deliver(22));
        check.is("its receipt", "1/1/0/0/-1/-1", () -> Picture.slotOf(m, 23));
        check.is("an old one", 0, () -> m.deliver(22));
        check.is("its receipt", "1/1/0/0/-1/-1", () -> Picture.slotOf(m, 23));
        check.is("the net", "24 messages, 0 lost", () -> inNet(m));
        PantryMarket asked = news(23);
        asked.ask(1, 0, 9);
        check.is("an ask", 1, () -> asked.deliver(23));
        check.is("its voucher", "0/0/1/0/0/9", () -> Picture.slotOf(asked, 23));
        check.is("the net", "24 messages, 0 lost", () -> inNet(asked));
    }

    private static void withoutAnswerThereIsRoom(Check check) {
        PantryMarket news = news(24);
        check.is("news", 1, () -> news.deliver(23));
        check.is("the net", FULL_BUT_ONE, () -> inNet(news));
        PantryMarket old = news(24);
        check.is("old news", "1 0", () -> old.deliver(4) + " " + old.deliver(0));
        check.is("the net", "22 messages, 0 lost", () -> inNet(old));
        PantryMarket asked = news(23);
        asked.ask(1, 0, 100);
        check.is("an ask for too much", 0, () -> asked.deliver(23));
        check.is("the net", FULL_BUT_ONE, () -> inNet(asked));
        PantryMarket down = news(23);
        down.give(0, 1, 0, 1);
        down.crash(1);
        check.is("a voucher to a till that is DOWN", 0, () -> down.deliver(23));
        check.is("the net", FULL_BUT_ONE, () -> inNet(down));
        PantryMarket dropped = news(24);
        check.is("drop", true, () -> dropped.drop(23));
        check.is("the net", FULL_BUT_ONE, () -> inNet(dropped));
    }

    /** The first, one between and the last, of few and of all, by drop and by deliver. */
    private static void takenOut(Check check) {
        int[][] rows = {{1, 0}, {2, 0}, {2, 1}, {5, 2}, {24, 0}, {24, 12}, {24, 22}, {24, 23}};
        for (int[] row : rows) {
            List<String> due = all(news(row[0]));
            due.remove(row[1]);
            PantryMarket dropped = news(row[0]);
            check.is("drop(" + row[1] + ") of " + row[0], true, () -> dropped.drop(row[1]));
            check.is("the others", due, () -> all(dropped));
            check.is("no till has heard of it", -1, () -> dropped.news(0, 1, 1));
            PantryMarket delivered = news(row[0]);
            check.is("deliver(" + row[1] + ") of " + row[0], 1, () -> delivered.deliver(row[1]));
            check.is("the others", due, () -> all(delivered));
            check.is("nothing behind them", -1, () -> delivered.slot(row[0] - 1, 0));
        }
    }

    private static void noSuchSlot(Check check) {
        for (int messages : new int[] {0, 1, 10, 23, 24}) {
            Supplier<PantryMarket> made = () -> news(messages);
            for (int slot : new int[] {-1, messages, 24, 25, Integer.MIN_VALUE, Integer.MAX_VALUE}) {
                String of = "(" + slot + ") of " + messages;
                check.refused("deliver" + of, Check.BOUNDS, made, m -> m.deliver(slot));
                check.refused("drop" + of, false, made, m -> m.drop(slot));
                check.refused("twice" + of, false, made, m -> m.twice(slot));
                check.is("slot" + of, "-1/-1/-1/-1/-1/-1", () -> Picture.slotOf(made.get(), slot));
            }
        }
    }

    private static void lostOnesAreNotCountedOtherwise(Check check) {
        PantryMarket m = news(24);
        m.twice(0);
        m.drop(0);
        m.deliver(0);
        m.crash(0);
        m.deliver(0);
        check.is("what is dropped, refused or delivered to nobody", "21 messages, 0 lost", () -> inNet(m));
    }
}
