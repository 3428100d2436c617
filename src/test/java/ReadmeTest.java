import java.io.IOException;
import java.lang.reflect.Method;
import java.lang.reflect.Modifier;
import java.nio.file.Files;
import java.nio.file.Path;
import java.util.regex.Matcher;
import java.util.regex.Pattern;

/** README.md tells the truth: its example answers what it says, and it has a row for each call of the face. */
public final class ReadmeTest {
    private static final Pattern LINE =
        Pattern.compile("^market\\.(\\w+)\\(([^)]*)\\); *// ([^ :]+):", Pattern.MULTILINE);

    public static void main(String[] args) throws IOException {
        Check check = new Check();
        String readme = Files.readString(Path.of("README.md"));
        example(check, readme);
        rows(check, readme);
        check.end();
    }

    private static void example(Check check, String readme) {
        check.is("the example begins so", true, () -> readme.contains("PantryMarket market = new PantryMarket(3);"));
        Twins twins = new Twins("the example", 3);
        Matcher line = LINE.matcher(readme);
        int lines = 0;
        while (line.find()) {
            String call = line.group(1) + " " + line.group(2).replace(",", "");
            check.is(line.group(), line.group(3), () -> twins.callWritten(call));
            lines++;
        }
        int found = lines;
        long due = readme.lines().filter(text -> text.startsWith("market.")).count();
        check.is("lines of the example that were tried", due, () -> found);
        check.is("there are some", true, () -> due > 0);
    }

    private static void rows(Check check, String readme) {
        for (Method method : PantryMarket.class.getDeclaredMethods()) {
            if (Modifier.isPublic(method.getModifiers())) {
                check.is("there is a row for " + method.getName(), true,
                    () -> readme.contains("\n| `" + method.getName() + "("));
            }
        }
    }
}
