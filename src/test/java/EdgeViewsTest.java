import java.util.Arrays;
import java.util.function.Function;
import java.util.function.Supplier;

/**
 * slot, has, news, pair, total and look: "NONE if there is none such", "or no such w", "they are the same",
 * "IndexOutOfBoundsException if there is none such or no such w", "of a till that is there", "NONE for any other
 * which".
 */
public final class EdgeViewsTest {
    private static final int[] FAR = {Integer.MIN_VALUE, -1000, 1000, Integer.MAX_VALUE};

    public static void main(String[] args) {
        Check check = new Check();
        cellsOfEachKind(check);
        slot(check);
        has(check);
        news(check);
        pair(check);
        total(check);
        totalsBelowNothing(check);
        look(check);
        viewsChangeNothing(check);
        check.end();
    }

    /** The ends of a range and what is next to them, and farther ones, that are all beyond it. */
    private static int[] beyond(int first, int last) {
        int[] beyond = Arrays.copyOf(FAR, FAR.length + 2);
        beyond[FAR.length] = first - 1;
        beyond[FAR.length + 1] = last + 1;
        return beyond;
    }

    private static String row(int count, Function<Integer, Integer> call) {
        StringBuilder row = new StringBuilder();
        for (int k = -1; k <= count; k++) {
            row.append(k < 0 ? "" : " ").append(call.apply(k));
        }
        return row.toString();
    }

    private static void cellsOfEachKind(Check check) {
        PantryMarket m = Markets.busy(3);
        check.is("a voucher", "-1 0 0 2 1 3 11 -1", () -> row(6, w -> m.slot(1, w)));
        check.is("a receipt", "-1 1 0 2 0 -1 -1 -1", () -> row(6, w -> m.slot(0, w)));
        check.is("news", "-1 2 1 0 1 1999997 1 -1", () -> row(6, w -> m.slot(9, w)));
        check.is("an ask", "-1 3 1 0 0 2 -1 -1", () -> row(6, w -> m.slot(7, w)));
    }

    private static void slot(Check check) {
        PantryMarket m = Markets.busy(3);
        check.is("the first and the last", "1 2", () -> m.slot(0, 0) + " " + m.slot(9, 0));
        for (int wrong : beyond(0, 9)) {
            check.is("slot " + wrong, -1, () -> m.slot(wrong, 0));
        }
        for (int wrong : beyond(0, 5)) {
            check.is("w " + wrong, -1, () -> m.slot(9, wrong));
        }
    }

    private static void has(Check check) {
        for (int n = 2; n <= 5; n++) {
            PantryMarket m = Markets.busy(n);
            int last = n - 1;
            check.is("the store", "[2999982, 0, 0, 7]", () -> Picture.hasOf(m, 0, 3));
            check.is("the last till", "[1999993, -2000000, 0, 7]", () -> Picture.hasOf(m, last, 3));
            check.is("broken and reserved", "[3000010, 0, 4, 6]", () -> Picture.hasOf(m, 0, 2));
            check.is("sold", "[2999995, 5, 0, 0]", () -> Picture.hasOf(m, 0, 0));
            for (int wrong : beyond(0, last)) {
                check.outOfBounds("till " + wrong, () -> m.has(wrong, 0, 0));
            }
            for (int wrong : beyond(0, 3)) {
                check.outOfBounds("article " + wrong, () -> m.has(0, wrong, 0));
                check.outOfBounds("w " + wrong, () -> m.has(0, 0, wrong));
            }
        }
    }

    private static void news(Check check) {
        for (int n = 2; n <= 5; n++) {
            PantryMarket m = new PantryMarket(n);
            int last = n - 1;
            m.stock(0, 5);
            m.unsell(last, 3, 6);
            Markets.tellAll(m, 0);
            Markets.tellAll(m, last);
            check.is("of the store", "-1 5 0 0 0 -1", () -> row(4, article -> m.news(last, 0, article)));
            check.is("of the last till", "-1 0 0 0 6 -1", () -> row(4, article -> m.news(0, last, article)));
            check.is("of itself", "-1 -1 -1 -1 -1 -1", () -> row(4, article -> m.news(0, 0, article)));
            check.is("nothing yet of article 0", -1, () -> new PantryMarket(5).news(0, last, 0));
            for (int wrong : beyond(0, last)) {
                check.is("till " + wrong, -1, () -> m.news(wrong, 0, 0));
                check.is("other " + wrong, -1, () -> m.news(0, wrong, 0));
            }
            for (int wrong : beyond(0, 3)) {
                check.is("article " + wrong, -1, () -> m.news(last, 0, wrong));
            }
        }
    }

    private static void pair(Check check) {
        for (int n = 2; n <= 5; n++) {
            PantryMarket m = Markets.busy(n);
            int last = n - 1;
            check.is("of the store", "-1 2 1 1 1 -1", () -> row(4, w -> m.pair(0, last, w)));
            check.is("of the last till", "-1 2 2 1 1 -1", () -> row(4, w -> m.pair(last, 0, w)));
            for (int till = 0; till < n; till++) {
                int t = till;
                check.is("of a till to itself", "-1 -1 -1 -1 -1 -1", () -> row(4, w -> m.pair(t, t, w)));
            }
            for (int wrong : beyond(0, last)) {
                check.is("till " + wrong, -1, () -> m.pair(wrong, 0, 0));
                check.is("other " + wrong, -1, () -> m.pair(0, wrong, 0));
            }
            for (int wrong : beyond(0, 3)) {
                check.is("w " + wrong, -1, () -> m.pair(0, last, wrong));
            }
        }
    }

    private static void total(Check check) {
        PantryMarket m = Markets.busy(4);
        check.is("of article 0", "-1 12 3000000 3000000 -1", () -> row(3, w -> m.total(0, w)));
        check.is("of article 3", "-1 11 3000000 3000000 -1", () -> row(3, w -> m.total(3, w)));
        for (int wrong : beyond(0, 3)) {
            check.is("article " + wrong, -1, () -> m.total(wrong, 1));
        }
        for (int wrong : beyond(0, 2)) {
            check.is("w " + wrong, -1, () -> m.total(0, wrong));
        }
    }

    /** "0 or above otherwise, but 1 and 2 can be below 0, too": -1 is then what it says. */
    private static void totalsBelowNothing(Check check) {
        PantryMarket m = new PantryMarket(2);
        m.unsell(0, 2, 3);
        m.counted(2, 2);
        check.is("one below", "[0, -1, -1]", () -> Picture.totalsOf(m, 2));
        m.give(0, 1, 2, 2);
        m.counted(2, 0);
        check.is("on their way is not", "[2, -1, -1]", () -> Picture.totalsOf(m, 2));
        m.unsell(0, 2, 9);
        m.counted(2, 0);
        check.is("ten below", "[2, -10, -10]", () -> Picture.totalsOf(m, 2));
    }

    private static void look(Check check) {
        String[] due = {
            "-1 2 13 0 0 3 1 0 -1 -1 -1 1 0 -1 -1 -1 -1 -1",
            "-1 3 10 0 0 3 1 3 0 -1 -1 1 1 0 -1 -1 -1 -1",
            "-1 4 10 0 0 3 1 3 1 0 -1 1 1 1 0 -1 -1 -1",
            "-1 5 10 0 0 3 1 3 1 1 0 1 1 1 1 0 -1 -1"};
        for (int n = 2; n <= 5; n++) {
            int tills = n;
            PantryMarket m = Markets.busy(n);
            m.crash(n - 1);
            check.is("look of " + n, due[n - 2], () -> row(16, m::look));
            for (int wrong : beyond(0, 9 + tills)) {
                check.is("look(" + wrong + ") of " + tills, -1, () -> m.look(wrong));
            }
        }
    }

    private static void viewsChangeNothing(Check check) {
        Supplier<PantryMarket> made = () -> Markets.busy(3);
        for (int argument : new int[] {-1, 0, 2, 4, 9, 24}) {
            check.refused("the views", "seen", made, m -> {
                for (int w = -1; w < 7; w++) {
                    int at = w;
                    m.slot(argument, at);
                    Check.answer(() -> m.has(argument, 1, at));
                    m.news(argument, at, 1);
                    m.pair(argument, 1, at);
                    m.total(argument, at);
                    m.look(argument + at);
                }
                return "seen";
            });
        }
    }
}
