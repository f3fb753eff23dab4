import java.lang.reflect.Method;
import java.lang.reflect.Modifier;
import java.nio.file.Files;
import java.nio.file.Path;
import java.util.ArrayList;
import java.util.Arrays;
import java.util.List;
import java.util.regex.Matcher;
import java.util.regex.Pattern;

/** The calls that README.md shows, each with its answer, and the methods that it names. */
public final class ReadmeTests {
    private static final Pattern CALL =
            Pattern.compile("game\\.([a-zA-Z]+)\\(([^/]*)\\); +// (-?[0-9]+)(?:: .*)?");
    private static final String MADE = "RingGames game = new RingGames();";

    private static int wrong = 0;
    private static int calls = 0;

    public static void main(String[] args) throws Exception {
        String page = Files.readString(Path.of("README.md"));
        RingGames game = null;
        for (String line : page.substring(page.indexOf("```java\n") + 8).split("\n")) {
            if (line.equals("```")) {
                break;
            } else if (line.equals(MADE)) {
                game = new RingGames();
            } else if (!line.isEmpty()) {
                call(game, line);
            }
        }
        names(page);
        if (calls == 0) {
            fail("README.md", "shows no call");
        }
        System.out.println(calls + " calls, " + wrong + " not as due");
        if (wrong != 0) {
            System.exit(1);
        }
    }

    private static void fail(String what, String why) {
        wrong++;
        System.out.println(what + " " + why);
    }

    private static void call(RingGames game, String line) throws Exception {
        Matcher parts = CALL.matcher(line);
        if (!parts.matches()) {
            fail(line, "is no call with its answer");
            return;
        }
        calls++;
        Object[] values = values(parts.group(2));
        int got = (int) method(parts.group(1), values).invoke(game, values);
        if (got != Integer.parseInt(parts.group(3))) {
            fail(line, "answered " + got);
        }
    }

    private static Object[] values(String text) {
        List<Object> values = new ArrayList<>();
        for (String value : text.isEmpty() ? new String[0] : text.split(", ")) {
            boolean sign = value.startsWith("'");
            values.add(sign ? (Object) value.charAt(1) : (Object) Integer.valueOf(value));
        }
        return values.toArray();
    }

    private static Method method(String name, Object[] values) throws Exception {
        Class<?>[] types = Arrays.stream(values)
                .map(value -> value instanceof Character ? char.class : int.class)
                .toArray(Class<?>[]::new);
        return RingGames.class.getMethod(name, types);
    }

    /** The table of the calls must name every method. */
    private static void names(String page) {
        String table = page.substring(page.indexOf("### The calls"), page.indexOf("## How it is built"));
        for (Method method : RingGames.class.getDeclaredMethods()) {
            boolean named = table.contains("`" + method.getName() + "`");
            if (Modifier.isPublic(method.getModifiers()) && !named) {
                fail(method.getName(), "is not in README.md's table");
            }
        }
    }
}
