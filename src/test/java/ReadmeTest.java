import java.io.IOException;
import java.lang.reflect.Method;
import java.nio.file.Files;
import java.nio.file.Path;
import java.util.regex.Matcher;
import java.util.regex.Pattern;

/** The answers that README.md tells behind its calls are those that the class gives. */
public final class ReadmeTest {
    private static final Pattern TEXT = Pattern.compile("String text = \"([^\"]*)\";");
    private static final Pattern CALL = Pattern.compile("x\\.(\\w+)\\((.*)\\); *// (-?\\d+):.*");

    private static int wrong = 0;
    private static int looked = 0;

    public static void main(String[] args) throws IOException, ReflectiveOperationException {
        TwoKings x = new TwoKings();
        boolean inside = false;
        for (String line : Files.readAllLines(Path.of("README.md"))) {
            if (line.startsWith("```")) inside = line.equals("```java");
            else if (inside) follow(x, line.trim());
        }
        if (looked == 0) tell("no call of README.md was found");
        System.out.println(looked + " answers of README.md looked at, " + wrong + " wrong");
        if (wrong != 0) System.exit(1);
    }

    private static void tell(String what) {
        wrong++;
        System.out.println(what);
    }

    private static void follow(TwoKings x, String line) throws ReflectiveOperationException {
        Matcher text = TEXT.matcher(line);
        Matcher call = CALL.matcher(line);
        if (text.matches()) {
            for (char sign : text.group(1).toCharArray()) x.write(1, sign);
        } else if (call.matches()) {
            looked++;
            long got = answer(x, call.group(1), call.group(2));
            if (got != Long.parseLong(call.group(3))) tell(line + " answered " + got);
        } else if (line.startsWith("x.")) {
            tell("no answer is told behind " + line);
        }
    }

    private static long answer(TwoKings x, String name, String words) throws ReflectiveOperationException {
        String[] told = words.isEmpty() ? new String[0] : words.split(", ");
        for (Method m : TwoKings.class.getMethods()) {
            if (!m.getName().equals(name) || m.getParameterCount() != told.length) continue;
            Object[] values = new Object[told.length];
            for (int i = 0; i < told.length; i++) values[i] = value(told[i], m.getParameterTypes()[i]);
            return ((Number) m.invoke(x, values)).longValue();
        }
        throw new NoSuchMethodException(name + "(" + words + ")");
    }

    private static Object value(String word, Class<?> type) {
        if (type == boolean.class) return Boolean.valueOf(word);
        if (type == int.class) return Integer.valueOf(word);
        return Long.valueOf(word.replace("L", ""));
    }
}
