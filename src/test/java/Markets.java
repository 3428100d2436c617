/** Markets that tests begin with, and what they do to them in many places. */
final class Markets {
    private Markets() {
    }

    /**
     * A market in which every part of every till's record is in use and differs from what is kept, with messages of
     * all kinds on their way: what a refused call changes or writes down wrongly is bound to show. Every till has
     * more than 1000000 of each article and the reservations 1 (of article 3) and 2; till 1 has news of article 0.
     */
    static PantryMarket busy(int n) {
        PantryMarket m = new PantryMarket(n);
        int last = n - 1;
        for (int article = 0; article < 4; article++) {
            for (int k = 0; k < 3; k++) {
                m.stock(article, 1000000);
            }
            for (int till = 1; till < n; till++) {
                m.unsell(till, article, 1000000);
                m.unsell(till, article, 1000000);
            }
        }
        m.give(0, last, 1, 10);
        m.give(last, 0, 2, 20);
        m.deliver(0);
        m.deliver(0);
        m.give(0, last, 3, 11);
        m.give(last, 0, 0, 12);
        for (int till = 0; till < n; till++) {
            m.reserve(till, 0, 5, 3);
            m.reserve(till, 3, 7, 50);
            m.sync(till);
        }
        for (int till = 0; till < n; till++) {
            m.sell(till, 1, 3);
            m.broken(till, 2, 4);
            m.reserve(till, 2, 6, 9);
            m.pick(till, 0);
            m.tick(till, 1);
        }
        m.counted(1, 1000000);
        m.unsell(0, 1, 1000000);
        deliverOneOf(m, 1, 0);
        for (int till = 0; till < n; till++) {
            deliverOneOf(m, 2, 1);
        }
        m.ask(1, 0, 2);
        m.tick(1, 2);
        return m;
    }

    /** Delivers the first message of a kind to a till, if there is one. */
    static void deliverOneOf(PantryMarket m, int kind, int to) {
        for (int slot = 0; slot < m.look(1); slot++) {
            if (m.slot(slot, 0) == kind && m.slot(slot, 2) == to) {
                m.deliver(slot);
                return;
            }
        }
    }

    static void dropAll(PantryMarket m) {
        while (m.drop(0)) {
            continue;
        }
    }

    /** A voucher is given and received, and its receipt comes back; what else is in the net stays as it is. */
    static int pass(PantryMarket m, int from, int to, int article, int units) {
        int number = m.give(from, to, article, units);
        m.deliver(m.look(1) - 1);
        m.deliver(m.look(1) - 1);
        return number;
    }

    /** Lets a till tell each other one of all its shares; of the messages only the news arrive. */
    static void tellAll(PantryMarket m, int till) {
        int roundOfAll = 4 * m.look(0);
        for (int k = 0; k < roundOfAll; k++) {
            m.tick(till, 1);
            while (m.look(1) > 0) {
                if (m.slot(0, 0) == 2) {
                    m.deliver(0);
                } else {
                    m.drop(0);
                }
            }
        }
    }

    /** Doubles the first message until there are so many in the net. */
    static void fillNet(PantryMarket m, int messages) {
        while (m.look(1) < messages) {
            m.twice(0);
        }
    }
}
