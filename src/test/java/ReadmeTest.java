import java.io.IOException;
import java.lang.reflect.Method;
import java.nio.file.Files;
import java.nio.file.Path;
import java.util.Arrays;
import java.util.Map;
import java.util.regex.Matcher;
import java.util.regex.Pattern;

/** The calls in README.md, one behind the other on one object, answer what stands behind them. */
public final class ReadmeTest {
    private static final Pattern TEXT = Pattern.compile("for \\(char letter : \"(.*)\"\\.toCharArray\\(\\)\\)");
    private static final Pattern CALL = Pattern.compile("^x\\.(\\w+)\\((.*)\\);\\s+// (\\w+): ");
    private static final Map<String, Integer> NAMES = Map.of("BAD", DonkeyVerdicts.BAD, "NO", DonkeyVerdicts.NO,
        "FULL", DonkeyVerdicts.FULL, "NONE", DonkeyVerdicts.NONE);

    public static void main(String[] args) throws IOException, ReflectiveOperationException {
        DonkeyVerdicts x = new DonkeyVerdicts();
        for (String line : Files.readAllLines(Path.of("README.md"))) {
            Matcher text = TEXT.matcher(line);
            Matcher call = CALL.matcher(line);
            if (text.find()) {
                for (char letter : text.group(1).toCharArray()) {
                    x.write(letter);
                }
            } else if (call.find()) {
                String due = call.group(3);
                int want = NAMES.containsKey(due) ? NAMES.get(due) : Integer.parseInt(due);
                Check.due(line, answer(x, call.group(1), call.group(2)), want);
            } else {
                Check.due(line + " is a call with its answer", line.startsWith("x.") ? 1 : 0, 0);
            }
        }
        Check.finish();
    }

    private static int answer(DonkeyVerdicts x, String name, String list) throws ReflectiveOperationException {
        Object[] numbers = list.isEmpty() ? new Object[0]
            : Arrays.stream(list.split(", ")).map(Integer::valueOf).toArray();
        Class<?>[] types = new Class<?>[numbers.length];
        Arrays.fill(types, int.class);
        Method method = DonkeyVerdicts.class.getMethod(name, types);
        return (Integer) method.invoke(x, numbers);
    }
}
