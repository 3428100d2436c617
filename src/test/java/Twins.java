import java.lang.reflect.InvocationTargetException;
import java.lang.reflect.Method;
import java.util.ArrayList;
import java.util.Arrays;
import java.util.HashMap;
import java.util.List;
import java.util.Map;

/**
 * A PantryMarket and a Model of as many tills, to which the same calls are made by name. The first answer that is not
 * the Model's is printed with the calls before it, and ends the test with exit code 1.
 */
final class Twins {
    static final String[] CALL_NAMES = {"stock", "sell", "unsell", "broken", "reserve", "pick", "tick", "give", "ask",
        "counted", "sync", "crash", "back", "deliver", "drop", "twice", "slot", "has", "news", "pair", "total", "look"};
    private static final int SHOWN = 12;
    private static final Map<String, Method> MARKET_METHODS = methods(PantryMarket.class);
    private static final Map<String, Method> MODEL_METHODS = methods(Model.class);

    final Model model;
    private final String title;
    private final PantryMarket market;
    private final List<Object[]> done = new ArrayList<>();

    Twins(String title, int n) {
        this.title = title;
        market = new PantryMarket(n);
        model = new Model(n);
    }

    private static Map<String, Method> methods(Class<?> type) {
        Map<String, Method> found = new HashMap<>();
        for (Method method : type.getMethods()) {
            found.put(method.getName(), method);
        }
        return found;
    }

    /** Makes a call to both and tells the answer; besides, no unit may have got lost or come from nothing by it. */
    String call(String name, Object... arguments) {
        String answer = compare(name, arguments);
        done.add(new Object[] {name, arguments, answer});
        for (int article = 0; article < 4; article++) {
            int all = market.total(article, 1);
            int booked = market.total(article, 2);
            if (all != booked) {
                fail("of article " + article + " there are " + all + " units, but " + booked + " were booked");
            }
        }
        return answer;
    }

    /** Makes a call that is written as its name and its arguments with blanks between them. */
    String callWritten(String text) {
        String[] words = text.split(" ");
        Object[] arguments = new Object[words.length - 1];
        for (int k = 0; k < arguments.length; k++) {
            arguments[k] = Integer.valueOf(words[k + 1]);
        }
        return call(words[0], arguments);
    }

    /** Whether no voucher is open and all news hold. */
    boolean atRest() {
        return market.look(3) == 1;
    }

    /** Compares all that the face shows. */
    void compareAll() {
        for (int which = 0; which < 15; which++) {
            compare("look", which);
        }
        for (int slot = 0; slot < market.look(1); slot++) {
            for (int w = 0; w < 6; w++) {
                compare("slot", slot, w);
            }
        }
        for (int till = 0; till < market.look(0); till++) {
            for (int article = 0; article < 4; article++) {
                for (int w = 0; w < 4; w++) {
                    compare("has", till, article, w);
                }
            }
            for (int other = 0; other < market.look(0); other++) {
                for (int k = 0; k < 4; k++) {
                    compare("news", till, other, k);
                    compare("pair", till, other, k);
                }
            }
        }
        for (int article = 0; article < 4; article++) {
            for (int w = 0; w < 3; w++) {
                compare("total", article, w);
            }
        }
    }

    private String compare(String name, Object... arguments) {
        String want = answer(MODEL_METHODS.get(name), model, arguments);
        String got = answer(MARKET_METHODS.get(name), market, arguments);
        if (!got.equals(want)) {
            fail(name + Arrays.toString(arguments) + " answered " + got + ", due is " + want);
        }
        return got;
    }

    private void fail(String what) {
        for (Object[] call : done.subList(Math.max(0, done.size() - SHOWN), done.size())) {
            System.out.println("  " + call[0] + Arrays.toString((Object[]) call[1]) + " = " + call[2]);
        }
        System.out.println(title + ": " + what);
        System.exit(1);
    }

    private static String answer(Method method, Object target, Object... arguments) {
        try {
            return String.valueOf(method.invoke(target, arguments));
        } catch (InvocationTargetException e) {
            return "throws." + e.getCause().getClass().getSimpleName();
        } catch (IllegalAccessException e) {
            throw new IllegalStateException(e);
        }
    }
}
