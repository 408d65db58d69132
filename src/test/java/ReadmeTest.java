import java.io.File;
import java.io.IOException;
import java.lang.reflect.InvocationTargetException;
import java.lang.reflect.Method;
import java.nio.file.Files;
import java.nio.file.Path;
import java.util.Arrays;
import java.util.regex.Matcher;
import java.util.regex.Pattern;

/** README.md must keep true: its calls answer what stands behind them, and it names every test. */
public final class ReadmeTest {
    private static final Pattern CALL =
            Pattern.compile(" {4}park\\.(\\w+)\\((.*)\\); +// ((?:throws )?[\\w.-]+)(?::.*)?");

    public static void main(String[] args) throws IOException, IllegalAccessException {
        String readme = Files.readString(Path.of("README.md"));
        FountainPark park = new FountainPark();
        int calls = 0;
        for (String line : readme.split("\n")) {
            if (line.startsWith("    park.")) {
                calls++;
                callOf(line, park);
            }
        }
        Check.due("README has calls", 1, calls > 0 ? 1 : 0);
        for (String file : new File("src/test/java").list()) {
            if (file.endsWith("Test.java")) {
                String name = file.substring(0, file.length() - ".java".length());
                boolean isNamed = Pattern.compile("\\| (\\w+, )?" + name + "[ ,]").matcher(readme).find();
                Check.due("README's table names " + name, 1, isNamed ? 1 : 0);
            }
        }
        Check.end();
    }

    private static void callOf(String line, FountainPark park) throws IllegalAccessException {
        Matcher matcher = CALL.matcher(line);
        if (!matcher.matches()) {
            Check.fail("README has a call that cannot be read: " + line);
            return;
        }
        Method method = Arrays.stream(FountainPark.class.getMethods())
                .filter(m -> m.getName().equals(matcher.group(1))).findAny().orElse(null);
        if (method == null) {
            Check.fail("README has a call of nothing: " + line);
            return;
        }
        String[] words = matcher.group(2).isEmpty() ? new String[0] : matcher.group(2).split(", ");
        Object[] values = Arrays.stream(words).map(ReadmeTest::valueOf).toArray();
        Check.due("README: " + line.strip(), matcher.group(3), answer(method, park, values));
    }

    private static Object valueOf(String word) {
        if (word.startsWith("'")) {
            return (int) word.charAt(1);
        }
        return word.equals("true") || word.equals("false") ? (Object) Boolean.valueOf(word) : Integer.valueOf(word);
    }

    private static String answer(Method method, FountainPark park, Object[] values) throws IllegalAccessException {
        try {
            return String.valueOf(method.invoke(park, values));
        } catch (InvocationTargetException e) {
            return "throws " + e.getCause().getClass().getSimpleName();
        }
    }
}
