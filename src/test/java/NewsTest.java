/** Promises 8 tick, 10 ask, 20 news, 23 look(3), and the delivering (15) of NEWS and ASK. */
public final class NewsTest {
    public static void main(String[] args) {
        Check check = new Check();
        whatTicksSend(check);
        openOnesFirst(check);
        stamps(check);
        stampsAfterCrash(check);
        wrongNews(check);
        ask(check);
        askIsAnswered(check);
        askIsNotAnswered(check);
        calm(check);
        check.end();
    }

    /** In a market of 3, till 1 at clocks 1 to 12: to clock % 3, of article clock / 3 % 4, none to itself. */
    private static void whatTicksSend(Check check) {
        PantryMarket m = new PantryMarket(3);
        for (int article = 0; article < 4; article++) {
            m.unsell(1, article, 10 + article);
        }
        m.tick(1, 12);
        int slot = 0;
        for (int clock = 1; clock <= 12; clock++) {
            if (clock % 3 != 1) {
                int at = slot;
                int article = clock / 3 % 4;
                String want = "2/1/" + clock % 3 + "/" + article + "/" + (10 + article) + "/" + at;
                check.is("news at clock " + clock, want, () -> Picture.slotOf(m, at));
                slot++;
            }
        }
        int sent = slot;
        check.is("no others", sent, () -> m.look(1));
        check.is("the clock", 12, () -> m.look(6));
        check.is("the store's clock", 0, () -> m.look(5));
        check.is("deliver(2)", 1, () -> m.deliver(2));
        check.is("news(2, 1, 1)", 11, () -> m.news(2, 1, 1));
        check.is("news(2, 1, 0)", -1, () -> m.news(2, 1, 0));
        check.is("news(0, 1, 1)", -1, () -> m.news(0, 1, 1));
        check.is("news(1, 2, 1)", -1, () -> m.news(1, 2, 1));
    }

    private static void openOnesFirst(Check check) {
        PantryMarket m = new PantryMarket(3);
        m.unsell(1, 0, 10);
        m.give(1, 2, 0, 1);
        m.give(1, 0, 0, 2);
        m.give(1, 2, 0, 3);
        m.reserve(1, 0, 4, 2);
        Markets.dropAll(m);
        check.is("tick(1, 2)", 1, () -> m.tick(1, 2));
        String[] want = {"0/1/0/0/0/2", "0/1/2/0/0/1", "0/1/2/1/0/3", "0/1/0/0/0/2", "0/1/2/0/0/1", "0/1/2/1/0/3",
            "2/1/2/0/4/0"};
        for (int k = 0; k < want.length; k++) {
            int at = k;
            check.is("message " + at, want[at], () -> Picture.slotOf(m, at));
        }
        check.is("no others", want.length, () -> m.look(1));
    }

    private static void stamps(Check check) {
        PantryMarket m = new PantryMarket(2);
        m.stock(0, 5);
        m.tick(0, 1);
        m.tick(0, 7);
        m.sell(0, 0, 1);
        m.tick(0, 1);
        check.is("the sixth message is newer news of article 0", "2/0/1/0/4/4", () -> Picture.slotOf(m, 4));
        check.is("the newer one", 1, () -> m.deliver(4));
        check.is("news(1, 0, 0)", 4, () -> m.news(1, 0, 0));
        check.is("the older one", 0, () -> m.deliver(0));
        check.is("news(1, 0, 0)", 4, () -> m.news(1, 0, 0));
        m.twice(0);
        check.is("older than that of another article", 1, () -> m.deliver(0));
        check.is("news(1, 0, 1)", 0, () -> m.news(1, 0, 1));
        check.is("the same stamp", 0, () -> m.deliver(2));
        m.tick(0, 8);
        check.is("the same units with a newer stamp", "2/0/1/0/4/8", () -> Picture.slotOf(m, 5));
        check.is("count as a change", 1, () -> m.deliver(5));
        m.crash(1);
        check.is("news are not synced", -1, () -> m.news(1, 0, 0));
    }

    private static void stampsAfterCrash(Check check) {
        PantryMarket m = new PantryMarket(2);
        m.stock(0, 5);
        m.tick(0, 1);
        check.is("stamp 0", 1, () -> m.deliver(0));
        m.crash(0);
        m.back(0);
        m.sell(0, 0, 1);
        m.tick(0, 1);
        check.is("the stamp is used again", "2/0/1/0/4/0", () -> Picture.slotOf(m, 0));
        check.is("and is not above", 0, () -> m.deliver(0));
        check.is("news(1, 0, 0)", 5, () -> m.news(1, 0, 0));
        lostNewsTakeAStamp(check);
        stampsAreKept(check);
    }

    private static void stampsAreKept(Check check) {
        PantryMarket m = new PantryMarket(2);
        m.stock(0, 5);
        m.tick(0, 9);
        m.twice(4);
        m.twice(4);
        check.is("stamp 4 of article 0", 1, () -> m.deliver(4));
        m.crash(1);
        m.back(1);
        check.is("forgotten, it is new again", 1, () -> m.deliver(4));
        m.sync(1);
        m.crash(1);
        m.back(1);
        check.is("kept, it is not", 0, () -> m.deliver(4));
        check.is("nor is stamp 0", 0, () -> m.deliver(0));
        check.is("news(1, 0, 0)", 5, () -> m.news(1, 0, 0));
    }

    private static void lostNewsTakeAStamp(Check check) {
        PantryMarket m = new PantryMarket(2);
        m.tick(0, 30);
        m.tick(0, 30);
        check.is("messages", 24, () -> m.look(1));
        check.is("lost", 6, () -> m.look(2));
        m.drop(0);
        m.tick(0, 1);
        check.is("clock 61 has stamp 30", "2/0/1/2/0/30", () -> Picture.slotOf(m, 23));
    }

    private static void wrongNews(Check check) {
        PantryMarket m = new PantryMarket(2);
        int[][] wrong = {{-1, 0, 0}, {0, -1, 0}, {2, 0, 0}, {0, 2, 0}, {0, 1, -1}, {0, 1, 4}, {0, 0, 0}, {1, 1, 3},
            {Integer.MAX_VALUE, 0, 0}, {0, Integer.MIN_VALUE, 0}, {0, 1, Integer.MAX_VALUE}};
        for (int[] w : wrong) {
            check.is("news(" + w[0] + ", " + w[1] + ", " + w[2] + ")", -1, () -> m.news(w[0], w[1], w[2]));
        }
    }

    private static void ask(Check check) {
        PantryMarket m = new PantryMarket(4);
        check.is("without any news", -1, () -> m.ask(1, 0, 5));
        check.is("nothing is sent", 0, () -> m.look(1));
        m.unsell(2, 0, 7);
        m.unsell(3, 0, 1);
        m.unsell(1, 0, 50);
        Markets.tellAll(m, 0);
        check.is("with news of 0 alone", -1, () -> m.ask(1, 0, 5));
        Markets.tellAll(m, 3);
        check.is("the only one above 0", 3, () -> m.ask(1, 0, 5));
        m.unsell(3, 0, 6);
        Markets.tellAll(m, 3);
        Markets.tellAll(m, 2);
        check.is("the first of two", 2, () -> m.ask(1, 0, 1000000));
        m.stock(0, 8);
        check.is("by news, not by what is", 2, () -> m.ask(1, 0, 5));
        Markets.tellAll(m, 0);
        check.is("the greatest", 0, () -> m.ask(1, 0, 9));
        check.is("the message", "3/1/0/0/9/-1", () -> Picture.slotOf(m, 0));
        check.is("another article", -1, () -> m.ask(1, 1, 9));
        check.is("another till", 0, () -> m.ask(2, 0, 9));
        m.crash(1);
        check.changesNothing("an ask of a till that is down", m, () -> {
            check.illegalState("ask(1, 0, 1)", () -> m.ask(1, 0, 1));
            check.illegalArgument("ask(1, 0, 0)", () -> m.ask(1, 0, 0));
        });
        m.back(1);
        check.is("its news were not synced", -1, () -> m.ask(1, 0, 1));
    }

    private static void askIsAnswered(Check check) {
        PantryMarket m = new PantryMarket(2);
        m.stock(0, 10);
        Markets.tellAll(m, 0);
        check.is("ask(1, 0, 4)", 0, () -> m.ask(1, 0, 4));
        m.sell(0, 0, 1);
        check.is("it gives", 1, () -> m.deliver(0));
        check.is("by a voucher", "0/0/1/0/0/4", () -> Picture.slotOf(m, 0));
        check.is("towards the one that asks", "[1, 1, 0, 0]", () -> Picture.pairOf(m, 0, 1));
        check.is("the giver", "[5, 1, 0, 0]", () -> Picture.hasOf(m, 0, 0));
        m.crash(0);
        check.is("and it has synced", "[5, 1, 0, 0]", () -> Picture.hasOf(m, 0, 0));
        check.is("the voucher", 1, () -> m.deliver(0));
        check.is("the one that asked", "[4, 0, 0, 0]", () -> Picture.hasOf(m, 1, 0));
    }

    private static void askIsNotAnswered(Check check) {
        PantryMarket m = new PantryMarket(2);
        m.stock(0, 10);
        Markets.tellAll(m, 0);
        m.ask(1, 0, 11);
        check.is("too many units", 0, () -> m.deliver(0));
        check.is("nothing is sent", 0, () -> m.look(1));
        check.is("has", "[10, 0, 0, 0]", () -> Picture.hasOf(m, 0, 0));
        for (int k = 0; k < 4; k++) {
            m.give(0, 1, 0, 1);
        }
        m.ask(1, 0, 1);
        check.is("four are open", 0, () -> m.deliver(4));
        check.is("pair", "[4, 4, 0, 0]", () -> Picture.pairOf(m, 0, 1));
        while (m.look(1) > 0) {
            m.deliver(0);
        }
        m.ask(1, 0, 1);
        m.crash(0);
        check.is("the till is down", 0, () -> m.deliver(0));
        check.is("the net", 0, () -> m.look(1));
        check.is("pair", "[4, 4, 0, 0]", () -> Picture.pairOf(m, 0, 1));
    }

    private static void calm(Check check) {
        PantryMarket m = new PantryMarket(2);
        check.is("NONE is not the share", 0, () -> m.look(3));
        m.stock(3, 9);
        Markets.tellAll(m, 0);
        check.is("one knows", 0, () -> m.look(3));
        Markets.tellAll(m, 1);
        check.is("both know", 1, () -> m.look(3));
        for (int k = 0; k < 4; k++) {
            int article = k;
            m.unsell(1, article, 1);
            check.is("news of article " + article + " are old", 0, () -> m.look(3));
            m.sell(1, article, 1);
            check.is("news are right again", 1, () -> m.look(3));
        }
        m.give(0, 1, 3, 1);
        m.deliver(0);
        Markets.tellAll(m, 0);
        Markets.tellAll(m, 1);
        check.is("the news are right", "8 1", () -> m.news(1, 0, 3) + " " + m.news(0, 1, 3));
        check.is("but a voucher is open", 0, () -> m.look(3));
        m.tick(0, 2);
        m.deliver(0);
        check.is("its receipt", 1, () -> m.deliver(m.look(1) - 1));
        check.is("calm again", 1, () -> m.look(3));
        m.crash(1);
        check.is("the crash took its news", 0, () -> m.look(3));
    }
}
