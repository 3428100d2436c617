/**
 * "if the stamp is above the one it has", "(NONE at first) with its STAMP (-1 at first)", "t being clock % n, and a the
 * remainder of clock / n by 4: if t is not itself", "its NEWS is greatest (of several the first one)", "NONE if it has
 * no NEWS above 0", and look(3): "no voucher is OPEN, and all NEWS are what the shares are".
 */
public final class EdgeNewsTest {
    public static void main(String[] args) {
        Check check = new Check();
        rounds(check);
        firstStamp(check);
        newsOfNothing(check);
        sameStamp(check);
        olderStamp(check);
        stampsOfEachArticle(check);
        stampsOfEachTill(check);
        reservationsAreBackBefore(check);
        stampsAfterCrash(check);
        askOfNobody(check);
        askOfOneUnit(check);
        askOfTheGreatest(check);
        askOfTheFirst(check);
        quiet(check);
        quietButForOneShare(check);
        quietButForOneVoucher(check);
        check.end();
    }

    /** Each till's clock goes once round all tills and articles and on into the second round. */
    private static void rounds(Check check) {
        for (int n = 2; n <= 5; n++) {
            for (int till = 0; till < n; till++) {
                PantryMarket m = new PantryMarket(n);
                for (int article = 0; article < 4; article++) {
                    m.unsell(till, article, 10 + article);
                }
                round(check, m, n, till);
            }
        }
    }

    private static void round(Check check, PantryMarket m, int n, int till) {
        int to = 0;
        int article = 0;
        int stamp = 0;
        for (int clock = 1; clock <= 6 * n; clock++) {
            to++;
            if (to == n) {
                to = 0;
                article = article == 3 ? 0 : article + 1;
            }
            m.tick(till, 1);
            String where = "till " + till + " of " + n + " at clock " + clock;
            if (to == till) {
                check.is(where + " tells itself nothing", 0, () -> m.look(1));
            } else {
                String due = "2/" + till + "/" + to + "/" + article + "/" + (10 + article) + "/" + stamp;
                check.is(where, due, () -> Picture.slotOf(m, 0));
                check.is(where + ", alone", 1, () -> m.look(1));
                stamp++;
            }
            m.drop(0);
        }
    }

    /** A market of two, in which the store has told till 1 so many news, of the articles 0, 1, 2, 3, 0, .. */
    private static PantryMarket told(int news) {
        PantryMarket m = new PantryMarket(2);
        for (int k = 0; k < news; k++) {
            m.stock(k % 4, 10 + k);
            m.tick(0, k == 0 ? 1 : 2);
        }
        return m;
    }

    private static void firstStamp(Check check) {
        PantryMarket m = told(1);
        check.is("news", "2/0/1/0/10/0", () -> Picture.slotOf(m, 0));
        check.is("stamp 0 is above -1", 1, () -> m.deliver(0));
        check.is("news(1, 0, 0)", 10, () -> m.news(1, 0, 0));
    }

    /** News of 0 units are news all the same. */
    private static void newsOfNothing(Check check) {
        PantryMarket m = new PantryMarket(2);
        m.tick(0, 1);
        m.twice(0);
        check.is("before", -1, () -> m.news(1, 0, 0));
        check.is("news of 0 units", 1, () -> m.deliver(0));
        check.is("after", 0, () -> m.news(1, 0, 0));
        check.is("again", 0, () -> m.deliver(0));
        check.is("ask", -1, () -> m.ask(1, 0, 1));
    }

    private static void sameStamp(Check check) {
        check.nothingNew("the same news again", () -> {
            PantryMarket m = told(1);
            m.twice(0);
            m.deliver(0);
            return m;
        }, 0);
        check.nothingNew("other units with the same stamp, after a crash", () -> {
            PantryMarket m = told(1);
            m.deliver(0);
            m.crash(0);
            m.back(0);
            m.sell(0, 0, 3);
            m.tick(0, 1);
            return m;
        }, 0);
    }

    private static void olderStamp(Check check) {
        PantryMarket m = told(5);
        check.is("stamp 4, of article 0 again", "2/0/1/0/24/4", () -> Picture.slotOf(m, 4));
        check.is("stamp 0", 1, () -> m.deliver(0));
        check.is("news(1, 0, 0)", 10, () -> m.news(1, 0, 0));
        check.is("stamp 4 is above", 1, () -> m.deliver(3));
        check.is("news(1, 0, 0)", 24, () -> m.news(1, 0, 0));
        check.nothingNew("stamp 0 after stamp 4", () -> {
            PantryMarket turned = told(5);
            turned.deliver(4);
            return turned;
        }, 0);
    }

    private static void stampsOfEachArticle(Check check) {
        PantryMarket m = told(4);
        for (int k = 3; k >= 0; k--) {
            int article = k;
            check.is("stamp " + article + " turned round", 1, () -> m.deliver(article));
            check.is("news of article " + article, 10 + article, () -> m.news(1, 0, article));
        }
        check.is("of the other till nothing", -1, () -> m.news(0, 1, 0));
    }

    private static void stampsOfEachTill(Check check) {
        PantryMarket m = new PantryMarket(3);
        m.unsell(1, 0, 6);
        m.unsell(0, 0, 5);
        m.tick(0, 2);
        m.tick(1, 2);
        check.is("the store's, stamp 1", "2/0/2/0/5/1", () -> Picture.slotOf(m, 1));
        check.is("till 1's, stamp 0", "2/1/2/0/6/0", () -> Picture.slotOf(m, 2));
        check.is("the one", 1, () -> m.deliver(1));
        check.is("the other", 1, () -> m.deliver(1));
        check.is("news", "5 6", () -> m.news(2, 0, 0) + " " + m.news(2, 1, 0));
    }

    /** A tick first lets reservations go, then tells of the share. */
    private static void reservationsAreBackBefore(Check check) {
        PantryMarket m = new PantryMarket(2);
        m.stock(0, 10);
        m.reserve(0, 0, 4, 1);
        m.reserve(0, 0, 3, 2);
        m.tick(0, 1);
        check.is("news with what is back, without what is not", "2/0/1/0/7/0", () -> Picture.slotOf(m, 0));
    }

    private static void stampsAfterCrash(Check check) {
        PantryMarket m = told(3);
        m.tick(0, 1);
        m.sync(0);
        m.tick(0, 1);
        m.crash(0);
        m.back(0);
        Markets.dropAll(m);
        m.tick(0, 1);
        check.is("the stamp and the clock as kept", "2/0/1/3/0/3", () -> Picture.slotOf(m, 0));
        m.deliver(0);
        check.is("heard", 0, () -> m.news(1, 0, 3));
        m.crash(1);
        check.is("news that were not kept are none", -1, () -> m.news(1, 0, 3));
    }

    private static void askOfNobody(Check check) {
        check.refused("an ask without news", -1, () -> Markets.busy(3), m -> m.ask(0, 0, 1));
        check.refused("an ask without news of the article", -1, () -> Markets.busy(3), m -> m.ask(1, 3, 1));
        check.refused("an ask with news of 0 units", -1, () -> {
            PantryMarket m = new PantryMarket(3);
            m.unsell(1, 0, 5);
            Markets.tellAll(m, 0);
            Markets.tellAll(m, 2);
            return m;
        }, m -> m.ask(1, 0, 1));
    }

    private static void askOfOneUnit(Check check) {
        PantryMarket m = new PantryMarket(3);
        m.unsell(2, 3, 1);
        Markets.tellAll(m, 0);
        Markets.tellAll(m, 2);
        check.is("ask(1, 3, 1)", 2, () -> m.ask(1, 3, 1));
        check.is("the message", "3/1/2/3/1/-1", () -> Picture.slotOf(m, 0));
        check.is("ask(1, 3, 1000000) of more than it has", 2, () -> m.ask(1, 3, 1000000));
        check.is("the message", "3/1/2/3/1000000/-1", () -> Picture.slotOf(m, 1));
    }

    /** Shares of the four others of till 2; the one with the greatest is asked, wherever it stands. */
    private static int asked(int... shares) {
        PantryMarket m = new PantryMarket(5);
        m.unsell(2, 1, 99);
        for (int k = 0; k < 4; k++) {
            int till = k < 2 ? k : k + 1;
            if (shares[k] > 0) {
                m.unsell(till, 1, shares[k]);
            }
            Markets.tellAll(m, till);
        }
        return m.ask(2, 1, 1);
    }

    private static void askOfTheGreatest(Check check) {
        check.is("the first is greatest", 0, () -> asked(5, 4, 4, 4));
        check.is("the second is", 1, () -> asked(4, 5, 4, 4));
        check.is("the third is", 3, () -> asked(4, 4, 5, 4));
        check.is("the last is", 4, () -> asked(4, 4, 4, 5));
        check.is("by one unit of many", 4, () -> asked(999999, 0, 999999, 1000000));
    }

    private static void askOfTheFirst(Check check) {
        check.is("all alike", 0, () -> asked(1, 1, 1, 1));
        check.is("the last two", 3, () -> asked(0, 0, 2, 2));
        check.is("the second and the last", 1, () -> asked(1, 2, 0, 2));
        check.is("none above 0", -1, () -> asked(0, 0, 0, 0));
    }

    /** Every till knows every other one's shares. */
    private static PantryMarket allTold(int n) {
        PantryMarket m = new PantryMarket(n);
        m.stock(1, 7);
        m.unsell(n - 1, 2, 8);
        for (int till = 0; till < n; till++) {
            Markets.tellAll(m, till);
        }
        return m;
    }

    private static void quiet(Check check) {
        for (int n = 2; n <= 5; n++) {
            PantryMarket fresh = new PantryMarket(n);
            check.is("NONE is not what a share is", 0, () -> fresh.look(3));
            for (int till = 0; till < n; till++) {
                PantryMarket m = allTold(n);
                check.is("all is told", 1, () -> m.look(3));
                m.crash(till);
                check.is("one has forgotten", 0, () -> m.look(3));
            }
        }
    }

    private static void quietButForOneShare(Check check) {
        for (int till = 0; till < 3; till++) {
            for (int article = 0; article < 4; article++) {
                int t = till;
                int a = article;
                PantryMarket m = allTold(3);
                m.unsell(t, a, 1);
                check.is("one unit more", 0, () -> m.look(3));
                m.sell(t, a, 1);
                check.is("one unit fewer again", 1, () -> m.look(3));
            }
        }
        PantryMarket m = allTold(2);
        m.stock(1, 1);
        for (int k = 0; k < 3; k++) {
            m.tick(0, 1);
        }
        check.is("news under way do not count", 0, () -> m.look(3));
        while (m.look(1) > 0) {
            m.deliver(0);
        }
        check.is("delivered they do", 1, () -> m.look(3));
    }

    private static void quietButForOneVoucher(Check check) {
        PantryMarket m = allTold(2);
        m.give(0, 1, 1, 3);
        m.deliver(0);
        Markets.tellAll(m, 0);
        Markets.tellAll(m, 1);
        check.is("seen and told of, but open", "0 1", () -> m.look(3) + " " + m.look(4));
        m.tick(0, 2);
        m.deliver(0);
        check.is("its receipt", 1, () -> m.deliver(m.look(1) - 1));
        check.is("open no more", "1 0", () -> m.look(3) + " " + m.look(4));
    }
}
