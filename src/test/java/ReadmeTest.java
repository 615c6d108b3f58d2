import java.lang.reflect.Method;
import java.nio.file.Files;
import java.nio.file.Path;
import java.util.regex.Matcher;
import java.util.regex.Pattern;

/** The calls of README.md, made in their order on one object, answer what the page says behind each. */
public final class ReadmeTest {
    private static final Pattern CALL = Pattern.compile("lawn\\.(\\w+)\\((.*)\\); *// (-?\\d+):.*");
    private static final Due due = new Due("ReadmeTest");

    public static void main(String[] args) throws Exception {
        CroquetLawn lawn = new CroquetLawn();
        int calls = 0;
        for (String line : Files.readAllLines(Path.of("README.md"))) {
            if (line.startsWith("lawn.")) {
                Matcher m = CALL.matcher(line);
                due.is("the form of " + line, m.matches() ? 1 : 0, 1);
                if (m.matches()) {
                    due.is(line, answer(lawn, m.group(1), m.group(2)), Long.parseLong(m.group(3)));
                }
                calls++;
            }
        }
        due.is("there are calls of each part", calls > 20 ? 1 : 0, 1);
        due.end();
    }

    private static int answer(CroquetLawn lawn, String call, String list) throws Exception {
        String[] numbers = list.isEmpty() ? new String[0] : list.split(", ");
        for (Method m : CroquetLawn.class.getDeclaredMethods()) {
            if (m.getName().equals(call) && m.getParameterCount() == numbers.length) {
                Object[] given = new Object[numbers.length];
                for (int k = 0; k < given.length; k++) {
                    long v = number(numbers[k]);
                    // not by ?:, which would make a long of both
                    if (m.getParameterTypes()[k] == long.class) {
                        given[k] = v;
                    } else {
                        given[k] = (int) v;
                    }
                }
                return (int) m.invoke(lawn, given);
            }
        }
        throw new IllegalArgumentException("no such call: " + call);
    }

    private static long number(String text) {
        return text.startsWith("'") ? text.charAt(1) : Long.decode(text.replace("L", ""));
    }
}
