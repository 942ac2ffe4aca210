import java.io.IOException;
import java.lang.reflect.InvocationTargetException;
import java.lang.reflect.Method;
import java.lang.reflect.Modifier;
import java.nio.file.Files;
import java.nio.file.Path;
import java.util.Set;
import java.util.TreeSet;
import java.util.regex.Matcher;
import java.util.regex.Pattern;

/** The calls that README.md shows, in its order on one ship, beside the answers that stand behind them. */
public final class ReadmeTest {
    private static final Pattern TOLD = Pattern.compile("^tell\\(ship, \"([^\"]*)\"\\); *// (-?\\d+)");
    private static final Pattern CALL = Pattern.compile("^ship\\.(\\w+)\\(([^)]*)\\); *// (-?\\d+)");

    public static void main(String[] args) throws IOException, ReflectiveOperationException {
        WhichHold ship = new WhichHold();
        Set<String> shown = new TreeSet<>(Set.of("feed", "end", "text"));
        for (String line : Files.readString(Path.of("README.md")).split("\n")) {
            Matcher told = TOLD.matcher(line);
            Matcher call = CALL.matcher(line);
            if (told.find()) {
                Check.due(line, Integer.parseInt(told.group(2)), asTheHelperTells(ship, told.group(1)));
            } else if (call.find()) {
                shown.add(call.group(1));
                Check.due(line, Integer.parseInt(call.group(3)), answer(ship, call.group(1), call.group(2)));
            } else {
                Check.due("a call that shows no answer: " + line, 0, line.startsWith("ship.") || line.startsWith("tell(") ? 1 : 0);
            }
        }
        for (Method m : WhichHold.class.getDeclaredMethods()) {
            boolean open = Modifier.isPublic(m.getModifiers());
            Check.due(m.getName() + "() is shown", 1, !open || shown.contains(m.getName()) ? 1 : 0);
        }
        Check.finish("ReadmeTest");
    }

    /** The helper of README.md, word for word. */
    private static int asTheHelperTells(WhichHold ship, String text) {
        int length = text.length();
        String padded = text + "       ";
        for (int i = 0; i < length; i += 8) {
            long eight = 0;
            for (int j = 0; j < 8; j++) {
                eight = eight << 8 | padded.charAt(i + j);
            }
            ship.feed(eight);
        }
        ship.end(length);
        return ship.text();
    }

    private static int answer(WhichHold ship, String name, String numbers) throws IllegalAccessException, InvocationTargetException {
        for (Method m : WhichHold.class.getDeclaredMethods()) {
            if (Modifier.isPublic(m.getModifiers()) && m.getName().equals(name)) {
                String[] parts = numbers.isEmpty() ? new String[0] : numbers.split(", *");
                Object[] given = new Object[parts.length];
                for (int i = 0; i < parts.length; i++) {
                    given[i] = Integer.parseInt(parts[i]);
                }
                return (int) m.invoke(ship, given);
            }
        }
        return Integer.MIN_VALUE;
    }
}
