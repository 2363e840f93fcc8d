import java.lang.reflect.Method;
import java.nio.file.Files;
import java.nio.file.Path;
import java.util.HashMap;
import java.util.Map;
import java.util.regex.Matcher;
import java.util.regex.Pattern;

/** The calls that README.md shows answer what it says behind them. */
public final class ReadmeTest {
    private static final Check C = new Check();
    private static final Pattern BLOCK = Pattern.compile("(?s)```java\n(.*?)```");
    private static final Pattern CALL = Pattern.compile("(?:int (\\w+) = )?book\\.(\\w+)\\((.*?)\\); *// (-?\\d+).*");

    private final DioceseBook book = new DioceseBook();
    private final Map<String, Long> named = new HashMap<>();

    public static void main(String[] args) throws Exception {
        Matcher block = BLOCK.matcher(Files.readString(Path.of("README.md")));
        while (block.find()) {
            ReadmeTest test = new ReadmeTest();
            for (String line : block.group(1).split("\n")) {
                if (!line.isEmpty() && !line.equals("DioceseBook book = new DioceseBook();")) {
                    test.ask(line);
                }
            }
        }
        C.end();
    }

    private void ask(String line) throws ReflectiveOperationException {
        Matcher call = CALL.matcher(line);
        C.due("a call with its answer: " + line, call.matches() ? 1 : 0, 1);
        if (!call.matches()) {
            return;
        }
        String[] words = call.group(3).isEmpty() ? new String[0] : call.group(3).split(", ");
        for (Method m : DioceseBook.class.getMethods()) {
            if (m.getName().equals(call.group(2)) && m.getReturnType() == int.class) {
                Object[] row = new Object[words.length];
                for (int k = 0; k < row.length; k++) {
                    long number = number(words[k]);
                    row[k] = m.getParameterTypes()[k] == long.class ? (Object) number : (Object) (int) number;
                }
                int got = (Integer) m.invoke(book, row);
                C.due(line, got, Long.parseLong(call.group(4)));
                if (call.group(1) != null) {
                    named.put(call.group(1), (long) got);
                }
            }
        }
    }

    private long number(String word) {
        Long known = named.get(word);
        return known != null ? known : Long.decode(word.replace("L", ""));
    }
}
