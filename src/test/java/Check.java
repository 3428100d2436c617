import java.util.concurrent.Callable;
import java.util.function.Function;
import java.util.function.Supplier;

/** Counts and prints the answers of one test that are not due; the test ends with exit code 1 if there are any. */
final class Check {
    static final String ARGUMENT = "throws.IllegalArgumentException";
    static final String STATE = "throws.IllegalStateException";
    static final String BOUNDS = "throws.IndexOutOfBoundsException";

    private int asked = 0;
    private int wrong = 0;

    void is(String what, Object want, Callable<?> call) {
        String got = answer(call);
        asked++;
        if (!got.equals(String.valueOf(want))) {
            wrong++;
            System.out.println(what + " answered " + got + ", due is " + want);
        }
    }

    void illegalArgument(String what, Callable<?> call) {
        is(what, ARGUMENT, call);
    }

    void illegalState(String what, Callable<?> call) {
        is(what, STATE, call);
    }

    void outOfBounds(String what, Callable<?> call) {
        is(what, BOUNDS, call);
    }

    /** The calls must be refused in their own way, which the test asks for besides, and leave all as it is. */
    void changesNothing(String what, PantryMarket market, Runnable calls) {
        String before = Picture.of(market);
        calls.run();
        is(what + " leaves everything as it was", before, () -> Picture.of(market));
    }

    /** A call that is refused or throws: its answer is the one due, and it changes nothing that ever comes to light. */
    void refused(String what, Object want, Supplier<PantryMarket> made, Function<PantryMarket, ?> call) {
        PantryMarket market = made.get();
        is(what, want, () -> call.apply(market));
        alike(what + " was refused", made, after(made, call));
    }

    /** A message that is nothing new: deliver answers 0, and has taken it out as drop would have, but no more. */
    void nothingNew(String what, Supplier<PantryMarket> made, int slot) {
        PantryMarket market = made.get();
        is(what, 0, () -> market.deliver(slot));
        alike(what + " was nothing new", after(made, m -> m.drop(slot)), after(made, m -> m.deliver(slot)));
    }

    private static Supplier<PantryMarket> after(Supplier<PantryMarket> made, Function<PantryMarket, ?> call) {
        return () -> {
            PantryMarket market = made.get();
            answer(() -> call.apply(market));
            return market;
        };
    }

    private void alike(String what, Supplier<PantryMarket> one, Supplier<PantryMarket> other) {
        String without = Trace.of(one);
        String with = Trace.of(other);
        asked++;
        if (!with.equals(without)) {
            wrong++;
            System.out.println(what + " but changed something:\n" + firstDifference(without, with));
        }
    }

    private static String firstDifference(String without, String with) {
        String[] before = without.split("\n");
        String[] after = with.split("\n");
        int k = 0;
        while (k < before.length - 1 && k < after.length - 1 && before[k].equals(after[k])) {
            k++;
        }
        return "  without it " + before[k] + "\n  with it    " + after[k];
    }

    void end() {
        System.out.println(asked + " answers asked, " + wrong + " not as due");
        if (wrong != 0) {
            System.exit(1);
        }
    }

    static String answer(Callable<?> call) {
        try {
            return String.valueOf(call.call());
        } catch (Exception e) {
            return "throws." + e.getClass().getSimpleName();
        }
    }
}
