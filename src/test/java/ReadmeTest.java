import java.io.IOException;
import java.lang.reflect.Method;
import java.nio.file.Files;
import java.nio.file.Path;
import java.util.Arrays;
import java.util.Set;
import java.util.TreeSet;
import java.util.regex.Matcher;
import java.util.regex.Pattern;
import java.util.stream.Collectors;

/** The examples of README.md answer what stands behind them, one after the other on one object. */
public final class ReadmeTest {
    private static final Pattern CALL = Pattern.compile("bench\\.(\\w+)\\((.*?)\\); +// (-?\\d+)\\b.*");
    private static final String NEW_OBJECT = "RoundKiss bench = new RoundKiss();";

    public static void main(String[] args) throws ReflectiveOperationException, IOException {
        String text = Files.readString(Path.of("README.md"));
        Set<String> shown = new TreeSet<>();
        RoundKiss bench = new RoundKiss();
        Matcher block = Pattern.compile("(?s)```java\n(.*?)```").matcher(text);
        while (block.find()) {
            for (String line : block.group(1).split("\n")) {
                if (!line.equals(NEW_OBJECT)) {
                    shown.add(check(bench, line));
                }
            }
        }
        Due.is("examples of new objects", text.split(Pattern.quote(NEW_OBJECT), -1).length - 1, 1);
        Due.holds("groups of calls are shown", shown.containsAll(Set.of("round", "kiss", "count", "way", "row", "status")));
        Due.end("ReadmeTest");
    }

    private static String check(RoundKiss bench, String line) throws ReflectiveOperationException {
        Matcher call = CALL.matcher(line);
        if (!call.matches()) {
            Due.holds("an example that can't be read: " + line, false);
            return "";
        }
        String[] told = call.group(2).isEmpty() ? new String[0] : call.group(2).split(", ");
        Object[] values = new Object[told.length];
        for (int i = 0; i < told.length; i++) {
            values[i] = value(told[i]);
        }
        Object answer = methodOf(call.group(1)).invoke(bench, values);
        Due.is("README: " + line, ((Number) answer).longValue(), Long.parseLong(call.group(3)));
        return call.group(1);
    }

    private static Object value(String told) throws ReflectiveOperationException {
        if (told.equals("true") || told.equals("false")) {
            return Boolean.valueOf(told);
        }
        if (told.startsWith("RoundKiss.")) {
            return RoundKiss.class.getField(told.substring("RoundKiss.".length())).get(null);
        }
        return Integer.valueOf(told);
    }

    private static Method methodOf(String name) {
        return Arrays.stream(RoundKiss.class.getMethods()).filter(m -> m.getName().equals(name))
                .collect(Collectors.toList()).get(0);
    }
}
