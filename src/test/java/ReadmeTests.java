import java.io.IOException;
import java.lang.reflect.Method;
import java.lang.reflect.Modifier;
import java.nio.file.Files;
import java.nio.file.Path;
import java.util.HashSet;
import java.util.Set;
import java.util.regex.Matcher;
import java.util.regex.Pattern;

/** Runs the example of README.md: each call there must answer the number that its comment begins with. */
final class ReadmeTests {
    private static final Pattern FED = Pattern.compile("for \\(char letter : \"([^\"]*)\".*");
    private static final Pattern CALL = Pattern.compile("court\\.(\\w+)\\(([-0-9, ]*)\\);\\s+// (-?\\d+).*");
    private static final int FEWEST_CALLS = 20;

    private ReadmeTests() {
    }

    static void run(Check check, Path readme) throws IOException, ReflectiveOperationException {
        RuleCourt court = new RuleCourt();
        String all = Files.readString(readme);
        int asked = 0;
        for (String line : all.split("\n")) {
            Matcher fed = FED.matcher(line);
            Matcher call = CALL.matcher(line);
            if (fed.matches()) {
                Told.feed(court, fed.group(1));
            } else if (call.matches()) {
                check.same("README.md: " + line, answer(court, call.group(1), call.group(2)), call.group(3));
                asked++;
            }
        }
        check.holds("README.md has an example", asked >= FEWEST_CALLS);
        check.same("calls that README.md does not name", unnamed(all).toString(), "[]");
    }

    private static String answer(RuleCourt court, String name, String told) throws ReflectiveOperationException {
        String[] numbers = told.isEmpty() ? new String[0] : told.split(", *");
        Class<?>[] types = new Class<?>[numbers.length];
        Object[] values = new Object[numbers.length];
        for (int i = 0; i < numbers.length; i++) {
            types[i] = int.class;
            values[i] = Integer.valueOf(numbers[i]);
        }
        return RuleCourt.class.getMethod(name, types).invoke(court, values).toString();
    }

    private static Set<String> unnamed(String readme) {
        Set<String> left = new HashSet<>();
        for (Method method : RuleCourt.class.getDeclaredMethods()) {
            if (Modifier.isPublic(method.getModifiers()) && !readme.contains("`" + method.getName() + "`")) {
                left.add(method.getName());
            }
        }
        return left;
    }
}
