/**
 * "Every run of calls", where calls and length are few: all runs of four calls out of a list, behind some first calls.
 * Each answer, and what the face shows at the end, must be the Model's.
 */
public final class ShortRunsTest {
    private static final int LENGTH = 4;

    public static void main(String[] args) {
        int runs = all("vouchers and crashes",
            "stock 0 5; unsell 1 0 3; sync 1",
            "give 0 1 0 2; give 1 0 0 1; deliver 0; deliver 1; drop 0; twice 0; tick 0 1; sell 0 0 1; counted 0 9;"
                + " sync 0; crash 0; back 0; crash 1; back 1");
        runs += all("vouchers on their way",
            "stock 1 9; give 0 1 1 2; give 0 1 1 3; give 0 1 1 4; twice 0",
            "deliver 0; deliver 1; deliver 2; drop 0; twice 0; tick 0 1; give 0 1 1 1; crash 0; back 0; stock 1 1");
        runs += all("reservations",
            "stock 2 9; reserve 0 2 1 2; reserve 0 2 3 1; sync 0",
            "reserve 0 2 2 1; reserve 0 2 3 3; reserve 0 2 9 1; pick 0 0; pick 0 1; pick 0 2; tick 0 1; tick 0 2;"
                + " sell 0 2 2; broken 0 2 1; sync 0; crash 0; back 0");
        runs += all("news and asks",
            "stock 0 6; unsell 1 0 4; tick 0 7; deliver 0; tick 1 7",
            "ask 0 0 2; ask 1 0 3; deliver 0; deliver 1; twice 0; tick 0 1; tick 1 1; sell 1 0 1; sync 1; crash 1;"
                + " back 1; counted 0 1");
        System.out.println(runs + " runs of " + LENGTH + " calls, all as due");
    }

    private static int all(String title, String first, String list) {
        String[] calls = list.split("; ");
        int runs = 1;
        for (int k = 0; k < LENGTH; k++) {
            runs *= calls.length;
        }
        for (int run = 0; run < runs; run++) {
            one(title, first.split("; "), calls, run);
        }
        return runs;
    }

    /** The digits of the run's number, to the base of how many calls the list has, tell which of them are made. */
    private static void one(String title, String[] first, String[] calls, int run) {
        Twins twins = new Twins(title, 2);
        for (String call : first) {
            twins.callWritten(call);
        }
        int rest = run;
        for (int k = 0; k < LENGTH; k++) {
            twins.callWritten(calls[rest % calls.length]);
            rest /= calls.length;
        }
        twins.compareAll();
    }
}
