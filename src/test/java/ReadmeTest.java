import java.lang.reflect.InvocationTargetException;
import java.lang.reflect.Method;
import java.lang.reflect.Modifier;
import java.nio.file.Files;
import java.nio.file.Path;
import java.util.HashMap;
import java.util.Map;
import java.util.regex.Matcher;
import java.util.regex.Pattern;

/** README.md tells every call, and the calls of its example answer what it says. */
public final class ReadmeTest {
    private static final Due due = new Due("ReadmeTest");
    private static final String MAKES = "VoiceRows rows = new VoiceRows();";
    private static final Pattern ASKS = Pattern.compile("int (\\w+) = rows\\.(\\w+)\\(([^)]*)\\); +// (-?\\d+): .*");

    public static void main(String[] args) throws Exception {
        String text = Files.readString(Path.of("README.md"));
        example(text);
        everyCall(text);
        due.end();
    }

    private static void example(String text) throws ReflectiveOperationException {
        Matcher block = Pattern.compile("(?s)```java\n(.*?)```").matcher(text);
        boolean stands = block.find();
        due.holds("README.md has an example", stands);
        if (!stands) return;
        VoiceRows rows = new VoiceRows();
        Map<String, Integer> names = new HashMap<>();
        for (String line : block.group(1).split("\n")) {
            if (line.equals(MAKES)) continue;
            Matcher asks = ASKS.matcher(line);
            due.holds("a call with its answer: " + line, asks.matches());
            if (asks.matches()) {
                int got = answer(rows, asks.group(2), asks.group(3), names);
                due.is(line, got, Integer.parseInt(asks.group(4)));
                names.put(asks.group(1), got);
            }
        }
        due.holds("the example calls something", !names.isEmpty());
    }

    private static int answer(VoiceRows rows, String call, String inside, Map<String, Integer> names)
            throws NoSuchMethodException, IllegalAccessException, InvocationTargetException {
        String[] words = inside.isEmpty() ? new String[0] : inside.split(", ");
        Class<?>[] types = new Class<?>[words.length];
        Object[] numbers = new Object[words.length];
        for (int i = 0; i < words.length; i++) {
            types[i] = int.class;
            numbers[i] = names.containsKey(words[i]) ? names.get(words[i]) : Integer.valueOf(words[i]);
        }
        return (int) VoiceRows.class.getMethod(call, types).invoke(rows, numbers);
    }

    /** Each call has a row of its own in one of the two tables, with as many numbers as it takes. */
    private static void everyCall(String text) {
        for (Method m : VoiceRows.class.getDeclaredMethods()) {
            if (Modifier.isPublic(m.getModifiers())) {
                Matcher row = Pattern.compile("(?m)^\\| `" + m.getName() + "\\(([^)]*)\\)` \\|").matcher(text);
                boolean told = row.find();
                due.holds("README.md tells " + m.getName(), told);
                if (told) {
                    int takes = row.group(1).isEmpty() ? 0 : row.group(1).split(", ").length;
                    due.is("numbers of " + m.getName(), takes, m.getParameterCount());
                }
            }
        }
    }
}
