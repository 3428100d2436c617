import java.lang.reflect.Constructor;
import java.lang.reflect.Field;
import java.lang.reflect.Method;
import java.lang.reflect.Modifier;
import java.util.Arrays;
import java.util.Set;
import java.util.TreeSet;

/** Promise 1 and the public face: its members, no others, and what a new object answers. */
public final class FaceTest {
    private static final String STATE = " throws IllegalArgumentException,IllegalStateException";
    private static final String BOUNDS = " throws IndexOutOfBoundsException";
    private static final String[] FACE = {
        "public int stock(int,int)" + STATE, "public int sell(int,int,int)" + STATE,
        "public int unsell(int,int,int)" + STATE, "public int broken(int,int,int)" + STATE,
        "public int reserve(int,int,int,int)" + STATE, "public boolean pick(int,int)",
        "public int tick(int,int)" + STATE, "public int give(int,int,int,int)" + STATE,
        "public int ask(int,int,int)" + STATE, "public int counted(int,int)" + STATE,
        "public boolean sync(int)", "public boolean crash(int)", "public boolean back(int)",
        "public int deliver(int)" + BOUNDS, "public boolean drop(int)", "public boolean twice(int)",
        "public int slot(int,int)", "public int has(int,int,int)" + BOUNDS, "public int news(int,int,int)",
        "public int pair(int,int,int)", "public int total(int,int)", "public int look(int)"};

    public static void main(String[] args) {
        Check check = new Check();
        members(check);
        tillsAreKeptInRange(check);
        nothingAnywhere(check);
        check.end();
    }

    private static void members(Check check) {
        check.is("NONE", -1, () -> PantryMarket.NONE);
        check.is("the class is public and final", true, () -> Modifier.isPublic(PantryMarket.class.getModifiers())
            && Modifier.isFinal(PantryMarket.class.getModifiers()));
        check.is("the methods", new TreeSet<>(Arrays.asList(FACE)), FaceTest::methods);
        check.is("the fields", "[public static final int NONE]", FaceTest::fields);
        check.is("the constructors", "[public PantryMarket(int)]",
            () -> Arrays.toString(PantryMarket.class.getDeclaredConstructors()));
        for (Class<?> inside : PantryMarket.class.getDeclaredClasses()) {
            int modifiers = inside.getModifiers();
            check.is(inside.getName() + " is static and neither public nor protected", true,
                () -> Modifier.isStatic(modifiers)
                    && !Modifier.isPublic(modifiers) && !Modifier.isProtected(modifiers));
        }
        privateNamesAreTheirOwn(check);
    }

    private static Set<String> methods() {
        Set<String> found = new TreeSet<>();
        for (Method method : PantryMarket.class.getDeclaredMethods()) {
            if (!Modifier.isPrivate(method.getModifiers())) {
                found.add(withoutPlaces(method));
            }
        }
        return found;
    }

    private static Set<String> fields() {
        Set<String> found = new TreeSet<>();
        for (Field field : PantryMarket.class.getDeclaredFields()) {
            if (!Modifier.isPrivate(field.getModifiers())) {
                found.add(withoutPlaces(field));
            }
        }
        return found;
    }

    private static String withoutPlaces(Object member) {
        return member.toString().replace("PantryMarket.", "").replace("java.lang.", "");
    }

    private static void privateNamesAreTheirOwn(Check check) {
        Set<String> face = new TreeSet<>();
        for (String member : FACE) {
            face.add(member.replaceAll(".* (\\w+)\\(.*", "$1"));
        }
        for (Method method : PantryMarket.class.getDeclaredMethods()) {
            if (Modifier.isPrivate(method.getModifiers())) {
                check.is("the private " + method.getName() + " bears a public name", false,
                    () -> face.contains(method.getName()));
            }
        }
        for (Class<?> inside : PantryMarket.class.getDeclaredClasses()) {
            for (Method method : inside.getDeclaredMethods()) {
                check.is("the inner " + method.getName() + " bears a public name", false,
                    () -> face.contains(method.getName()));
            }
            for (Constructor<?> made : inside.getDeclaredConstructors()) {
                check.is("the inner constructor is hidden", false, () -> Modifier.isPublic(made.getModifiers()));
            }
        }
    }

    private static void tillsAreKeptInRange(Check check) {
        int[][] rows = {{Integer.MIN_VALUE, 2}, {-1, 2}, {0, 2}, {1, 2}, {2, 2}, {3, 3}, {4, 4}, {5, 5}, {6, 5},
            {Integer.MAX_VALUE, 5}};
        for (int[] row : rows) {
            check.is("the tills of " + row[0], row[1], () -> new PantryMarket(row[0]).look(0));
            check.is("a market of " + row[0], Trace.of(() -> new PantryMarket(row[1])),
                () -> Trace.of(() -> new PantryMarket(row[0])));
        }
    }

    private static void nothingAnywhere(Check check) {
        for (int n = 2; n <= 5; n++) {
            PantryMarket m = new PantryMarket(n);
            for (int article = 0; article < 4; article++) {
                int a = article;
                check.is("totals", "[0, 0, 0]", () -> Picture.totalsOf(m, a));
                for (int till = 0; till < n; till++) {
                    int t = till;
                    check.is("has", "[0, 0, 0, 0]", () -> Picture.hasOf(m, t, a));
                    for (int other = 0; other < n; other++) {
                        int o = other;
                        check.is("news", -1, () -> m.news(t, o, a));
                        check.is("pair", t == o ? "[-1, -1, -1, -1]" : "[0, 0, 0, 0]", () -> Picture.pairOf(m, t, o));
                    }
                }
            }
            int[] looks = {n, 0, 0, 0, 0};
            for (int which = -2; which < 18; which++) {
                int w = which;
                int want = w < 0 ? -1 : w < 5 ? looks[w] : w < 5 + n ? 0 : w >= 10 && w < 10 + n ? 1 : -1;
                check.is("look(" + w + ") of a new market of " + n, want, () -> m.look(w));
            }
        }
    }
}
