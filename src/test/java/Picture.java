/** All that the face shows of a market, as one text. */
final class Picture {
    private Picture() {
    }

    static String of(PantryMarket m) {
        StringBuilder text = new StringBuilder();
        for (int which = 0; which < 15; which++) {
            text.append("look").append(which).append('=').append(m.look(which)).append(' ');
        }
        for (int slot = 0; slot < m.look(1); slot++) {
            text.append(slotOf(m, slot)).append(' ');
        }
        int tills = m.look(0);
        for (int article = 0; article < 4; article++) {
            text.append("\narticle").append(article).append(" totals");
            for (int w = 0; w < 3; w++) {
                text.append(' ').append(m.total(article, w));
            }
            for (int till = 0; till < tills; till++) {
                text.append(" till").append(till).append(hasOf(m, till, article));
                for (int other = 0; other < tills; other++) {
                    text.append(' ').append(m.news(till, other, article));
                }
            }
        }
        for (int till = 0; till < tills; till++) {
            for (int other = 0; other < tills; other++) {
                text.append("\npair").append(till).append(other);
                for (int w = 0; w < 4; w++) {
                    text.append(' ').append(m.pair(till, other, w));
                }
            }
        }
        return text.toString();
    }

    /** What the face shows of one till's record, and of what is booked. */
    static String ofRecord(PantryMarket m, int till) {
        StringBuilder text = new StringBuilder("clock ").append(m.look(5 + till));
        for (int article = 0; article < 4; article++) {
            text.append(' ').append(hasOf(m, till, article)).append(" of ").append(m.total(article, 2));
            for (int other = 0; other < m.look(0); other++) {
                text.append(' ').append(m.news(till, other, article));
            }
        }
        for (int other = 0; other < m.look(0); other++) {
            text.append(' ').append(pairOf(m, till, other));
        }
        return text.toString();
    }

    /** A message as kind/from/to/third/fourth/fifth. */
    static String slotOf(PantryMarket m, int slot) {
        StringBuilder text = new StringBuilder();
        for (int w = 0; w < 6; w++) {
            text.append(w == 0 ? "" : "/").append(m.slot(slot, w));
        }
        return text.toString();
    }

    /** What a till has of an article as [share, sold, broken, reserved]. */
    static String hasOf(PantryMarket m, int till, int article) {
        StringBuilder text = new StringBuilder("[");
        for (int w = 0; w < 4; w++) {
            text.append(w == 0 ? "" : ", ").append(m.has(till, article, w));
        }
        return text.append(']').toString();
    }

    /** The three totals of an article as [on their way, all, booked]. */
    static String totalsOf(PantryMarket m, int article) {
        return "[" + m.total(article, 0) + ", " + m.total(article, 1) + ", " + m.total(article, 2) + "]";
    }

    /** What a till has towards another one as [next number, open, floor, seen]. */
    static String pairOf(PantryMarket m, int till, int other) {
        return "[" + m.pair(till, other, 0) + ", " + m.pair(till, other, 1) + ", " + m.pair(till, other, 2)
            + ", " + m.pair(till, other, 3) + "]";
    }
}
