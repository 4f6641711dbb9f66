import java.lang.reflect.Method;
import java.nio.file.Files;
import java.nio.file.Path;
import java.util.Arrays;
import java.util.regex.Matcher;
import java.util.regex.Pattern;

/** README.md shows calls with what they answer, and names every call of the class. */
public final class ReadmeTest {
    private static final Checks CHECKS = new Checks();
    private static final Pattern SHOWN = Pattern.compile("(?m)^x\\.(\\w+)\\((.*)\\); +// (-?\\d+)\\b.*$");

    public static void main(String[] args) throws Exception {
        String text = Files.readString(Path.of("README.md"));
        example(text);
        for (Method m : WishWays.class.getDeclaredMethods()) {
            if (java.lang.reflect.Modifier.isPublic(m.getModifiers())) {
                CHECKS.due("README.md names " + m.getName(), text.contains("`" + m.getName() + "`"), true);
            }
        }
        CHECKS.finish("ReadmeTest");
    }

    private static void example(String text) throws Exception {
        WishWays x = new WishWays();
        int shown = 0;
        for (Matcher m = SHOWN.matcher(text); m.find(); shown++) {
            int[] numbers = numbers(m.group(2));
            CHECKS.due(m.group(), call(x, m.group(1), numbers), Integer.parseInt(m.group(3)));
        }
        long lines = text.lines().filter(line -> line.startsWith("x.")).count();
        CHECKS.due("calls with what they answer", shown, lines);
        CHECKS.due("there are some", shown > 20, true);
    }

    private static int[] numbers(String list) {
        return list.isEmpty() ? new int[0] : Arrays.stream(list.split(", ")).mapToInt(ReadmeTest::number).toArray();
    }

    private static int number(String one) {
        return one.equals("true") ? 1 : one.equals("false") ? 0 : Long.decode(one).intValue();
    }

    private static int call(WishWays x, String name, int[] numbers) throws Exception {
        for (Method m : WishWays.class.getDeclaredMethods()) {
            if (m.getName().equals(name) && m.getParameterCount() == numbers.length) {
                Object[] given = new Object[numbers.length];
                for (int i = 0; i < given.length; i++) {
                    given[i] = m.getParameterTypes()[i] == boolean.class ? (Object) (numbers[i] == 1) : (Object) numbers[i];
                }
                return (Integer) m.invoke(x, given);
            }
        }
        throw new IllegalStateException("README.md shows a call that is not there: " + name);
    }
}
