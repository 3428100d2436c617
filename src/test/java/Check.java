import java.util.concurrent.Callable;

/** Counts and prints the answers of one test that are not due; the test ends with exit code 1 if there are any. */
final class Check {
    private int asked = 0;
    private int wrong = 0;

    void is(String what, Object want, Callable<?> call) {
        String got = answer(call);
        asked++;
        if (!got.equals(String.valueOf(want))) {
            wrong++;
            System.out.println(what + " answered " + got + ", due is " + want);
        }
    }

    void illegalArgument(String what, Callable<?> call) {
        is(what, "throws.IllegalArgumentException", call);
    }

    void illegalState(String what, Callable<?> call) {
        is(what, "throws.IllegalStateException", call);
    }

    void outOfBounds(String what, Callable<?> call) {
        is(what, "throws.IndexOutOfBoundsException", call);
    }

    /** The calls must be refused in their own way, which the test asks for besides, and leave all as it is. */
    void changesNothing(String what, PantryMarket market, Runnable calls) {
        String before = Picture.of(market);
        calls.run();
        is(what + " leaves everything as it was", before, () -> Picture.of(market));
    }

    void end() {
        System.out.println(asked + " answers asked, " + wrong + " not as due");
        if (wrong != 0) {
            System.exit(1);
        }
    }

    static String answer(Callable<?> call) {
        try {
            return String.valueOf(call.call());
        } catch (Exception e) {
            return "throws." + e.getClass().getSimpleName();
        }
    }
}
