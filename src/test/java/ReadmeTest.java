import java.nio.file.Files;
import java.nio.file.Path;
import java.util.regex.Matcher;
import java.util.regex.Pattern;

/** README.md's examples, call by call on one object, answer what README.md says behind each. */
public final class ReadmeTest {
    private static final Pattern CALL = Pattern.compile("x\\.(\\w+)\\(([-\\d, ]*)\\);\\s+// (-?\\d+): .*");
    private static final Pattern TEXT = Pattern.compile("for \\(char letter : \"(.*)\"\\.toCharArray\\(\\)\\) \\{");

    public static void main(String[] args) throws Exception {
        Checks checks = new Checks();
        checks.part("README.md");
        RingsOff x = new RingsOff();
        int calls = 0;
        int texts = 0;
        for (String line : Files.readAllLines(Path.of("README.md"))) {
            Matcher call = CALL.matcher(line);
            Matcher text = TEXT.matcher(line);
            if (call.matches()) {
                calls++;
                checks.due(line, answer(x, call.group(1), call.group(2)), Long.parseLong(call.group(3)));
            } else if (text.matches()) {
                texts++;
                text.group(1).chars().forEach(x::feed);
            } else if (line.startsWith("x.")) {
                checks.holds("no answer is told by " + line, false);
            }
        }
        checks.due("calls that README.md shows", calls, 19);
        checks.due("texts that README.md shows", texts, 1);
        checks.end("ReadmeTest");
    }

    private static long answer(RingsOff x, String name, String arguments) throws Exception {
        String[] told = arguments.isBlank() ? new String[0] : arguments.split(", ");
        for (var method : RingsOff.class.getDeclaredMethods()) {
            if (method.getName().equals(name) && method.getParameterCount() == told.length) {
                Object[] values = new Object[told.length];
                for (int i = 0; i < told.length; i++) {
                    values[i] = method.getParameterTypes()[i] == long.class
                            ? (Object) Long.valueOf(told[i]) : Integer.valueOf(told[i]);
                }
                return ((Number) method.invoke(x, values)).longValue();
            }
        }
        throw new IllegalArgumentException("no call " + name);
    }
}
