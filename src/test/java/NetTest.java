/** Promises 15 deliver (its slots), 16 drop, 17 twice, 18 slot and 23 look. */
public final class NetTest {
    public static void main(String[] args) {
        Check check = new Check();
        slots(check);
        movingUp(check);
        noSuchSlot(check);
        fullNet(check);
        answersInAFullNet(check);
        looks(check);
        check.end();
    }

    /** One message of each kind: 0 a voucher, 1 a receipt, 2 news, 3 an ask. */
    private static PantryMarket oneOfEach() {
        PantryMarket m = new PantryMarket(2);
        m.stock(3, 1000);
        m.tick(0, 7);
        m.deliver(3);
        Markets.dropAll(m);
        m.give(0, 1, 3, 11);
        m.twice(0);
        m.deliver(0);
        m.tick(1, 2);
        m.ask(1, 3, 12);
        return m;
    }

    private static void slots(Check check) {
        PantryMarket m = oneOfEach();
        check.is("messages", 4, () -> m.look(1));
        check.is("voucher", "0/0/1/0/3/11", () -> Picture.slotOf(m, 0));
        check.is("receipt", "1/1/0/0/-1/-1", () -> Picture.slotOf(m, 1));
        check.is("news", "2/1/0/1/0/0", () -> Picture.slotOf(m, 2));
        check.is("ask", "3/1/0/3/12/-1", () -> Picture.slotOf(m, 3));
        int[][] wrong = {{-1, 0}, {4, 0}, {24, 0}, {0, -1}, {0, 6}, {3, 6}, {Integer.MAX_VALUE, 0},
            {Integer.MIN_VALUE, 0}, {0, Integer.MAX_VALUE}, {0, Integer.MIN_VALUE}};
        for (int[] w : wrong) {
            check.is("slot(" + w[0] + ", " + w[1] + ")", -1, () -> m.slot(w[0], w[1]));
        }
    }

    private static void movingUp(Check check) {
        PantryMarket m = oneOfEach();
        check.is("twice(1)", true, () -> m.twice(1));
        check.is("it is at the end", "1/1/0/0/-1/-1", () -> Picture.slotOf(m, 4));
        check.is("and where it was", "1/1/0/0/-1/-1", () -> Picture.slotOf(m, 1));
        check.is("drop(1)", true, () -> m.drop(1));
        check.is("messages", 4, () -> m.look(1));
        check.is("the one before", "0/0/1/0/3/11", () -> Picture.slotOf(m, 0));
        check.is("the next moves up", "2/1/0/1/0/0", () -> Picture.slotOf(m, 1));
        check.is("and the one behind it", "3/1/0/3/12/-1", () -> Picture.slotOf(m, 2));
        check.is("and the last one", "1/1/0/0/-1/-1", () -> Picture.slotOf(m, 3));
        check.is("nothing behind", -1, () -> m.slot(4, 0));
        check.is("drop(3)", true, () -> m.drop(3));
        check.is("the last is gone", -1, () -> m.slot(3, 0));
        check.is("what is dropped does not count as lost", 0, () -> m.look(2));
        check.is("nor changes a till", 1, () -> m.pair(0, 1, 1));
        check.is("deliver(1)", 1, () -> m.deliver(1));
        check.is("the next moves up", "3/1/0/3/12/-1", () -> Picture.slotOf(m, 1));
        check.is("messages", 2, () -> m.look(1));
    }

    private static void noSuchSlot(Check check) {
        PantryMarket empty = new PantryMarket(2);
        PantryMarket m = oneOfEach();
        for (int slot : new int[] {-1, 4, 23, 24, Integer.MIN_VALUE, Integer.MAX_VALUE}) {
            check.changesNothing("slot " + slot, m, () -> {
                check.outOfBounds("deliver(" + slot + ")", () -> m.deliver(slot));
                check.is("drop(" + slot + ")", false, () -> m.drop(slot));
                check.is("twice(" + slot + ")", false, () -> m.twice(slot));
            });
        }
        check.outOfBounds("deliver(0)", () -> empty.deliver(0));
        check.is("drop(0)", false, () -> empty.drop(0));
        check.is("twice(0)", false, () -> empty.twice(0));
        check.is("slot(0, 0)", -1, () -> empty.slot(0, 0));
    }

    private static void fullNet(Check check) {
        PantryMarket m = oneOfEach();
        for (int k = 4; k < 24; k++) {
            check.is("twice(3)", true, () -> m.twice(3));
        }
        check.changesNothing("twice in a full net", m, () -> check.is("twice(0)", false, () -> m.twice(0)));
        check.is("nothing is lost by that", 0, () -> m.look(2));
        check.is("give goes on", 1, () -> m.give(0, 1, 3, 1));
        check.is("its voucher is lost", 1, () -> m.look(2));
        check.is("but open", "[2, 2, 0, 0]", () -> Picture.pairOf(m, 0, 1));
        check.is("ask answers the till", 0, () -> m.ask(1, 3, 1));
        check.is("it is lost, too", 2, () -> m.look(2));
        m.tick(0, 1);
        check.is("two vouchers", 4, () -> m.look(2));
        check.is("to itself no news", 8, () -> m.look(5));
        m.tick(0, 1);
        check.is("two vouchers and news", 7, () -> m.look(2));
        check.is("the net", 24, () -> m.look(1));
        check.is("its last one is what it was", "3/1/0/3/12/-1", () -> Picture.slotOf(m, 23));
        m.drop(5);
        check.is("there is room for one", true, () -> m.twice(0));
        check.is("and no more", false, () -> m.twice(0));
    }

    private static void answersInAFullNet(Check check) {
        PantryMarket m = new PantryMarket(2);
        m.stock(0, 10);
        m.give(0, 1, 0, 1);
        for (int k = 1; k < 24; k++) {
            m.twice(0);
        }
        check.is("deliver(0)", 1, () -> m.deliver(0));
        check.is("the receipt has its place", "1/1/0/0/-1/-1", () -> Picture.slotOf(m, 23));
        check.is("an old one", 0, () -> m.deliver(0));
        check.is("its receipt, too", "1/1/0/0/-1/-1", () -> Picture.slotOf(m, 23));
        check.is("nothing is lost", 0, () -> m.look(2));
        check.is("the net", 24, () -> m.look(1));
    }

    private static void looks(Check check) {
        PantryMarket m = new PantryMarket(4);
        m.stock(0, 10);
        m.give(0, 1, 0, 1);
        m.give(0, 3, 0, 1);
        m.unsell(2, 0, 5);
        m.give(2, 3, 0, 1);
        m.tick(3, 7);
        m.tick(1, 30);
        m.crash(2);
        int[] want = {4, 24, 6, 0, 3, 0, 30, 0, 7, -1, 1, 1, 0, 1, -1, -1};
        for (int k = 0; k < want.length; k++) {
            int which = k;
            check.is("look(" + which + ")", want[which], () -> m.look(which));
        }
        for (int which : new int[] {-1, 15, 100, Integer.MIN_VALUE, Integer.MAX_VALUE}) {
            check.is("look(" + which + ")", -1, () -> m.look(which));
        }
        PantryMarket five = new PantryMarket(5);
        five.tick(4, 2);
        check.is("look(9)", 2, () -> five.look(9));
        check.is("look(14)", 1, () -> five.look(14));
        check.is("look(15)", -1, () -> five.look(15));
    }
}
