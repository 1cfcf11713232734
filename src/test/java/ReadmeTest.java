import java.lang.reflect.Method;
import java.lang.reflect.Modifier;
import java.nio.file.Files;
import java.nio.file.Path;
import java.util.ArrayList;
import java.util.List;
import java.util.regex.Matcher;
import java.util.regex.Pattern;

/** README.md tells the truth: its calls answer as it says, and its table has each call of the face. */
public final class ReadmeTest {
    private static final Path README = Path.of("README.md");
    private static final Pattern CALL = Pattern.compile("x\\.(\\w+)\\(([^)]*)\\); +// (-?\\d+)( .*)?");

    public static void main(String[] args) throws Exception {
        Check check = new Check();
        List<String> lines = Files.readAllLines(README);
        int made = makeCalls(check, lines);
        check.due("there are calls in README.md", made > 0 ? 1 : 0, 1);
        for (Method m : ThroughOthers.class.getDeclaredMethods()) {
            if (Modifier.isPublic(m.getModifiers())) {
                check.due("the table has " + m.getName(), tableHas(lines, m.getName()) ? 1 : 0, 1);
            }
        }
        check.end();
    }

    private static int makeCalls(Check check, List<String> lines) throws Exception {
        ThroughOthers x = new ThroughOthers();
        int made = 0;
        for (String line : lines) {
            if (!line.startsWith("x.")) continue;
            Matcher call = CALL.matcher(line);
            check.due("a call and its answer: " + line, call.matches() ? 1 : 0, 1);
            if (!call.matches()) continue;
            Method act = act(call.group(1));
            long got = ((Number) act.invoke(x, arguments(call.group(2)))).longValue();
            check.due(line, got, Long.parseLong(call.group(3)));
            made++;
        }
        return made;
    }

    private static Method act(String name) {
        for (Method m : ThroughOthers.class.getDeclaredMethods()) {
            if (Modifier.isPublic(m.getModifiers()) && m.getName().equals(name)) return m;
        }
        throw new IllegalArgumentException("no call " + name);
    }

    private static Object[] arguments(String text) {
        List<Object> all = new ArrayList<>();
        for (String one : text.isEmpty() ? new String[0] : text.split(", ")) {
            all.add(argument(one));
        }
        return all.toArray();
    }

    private static Object argument(String text) {
        if (text.equals("true") || text.equals("false")) return text.equals("true");
        if (text.equals("ThroughOthers.NONE")) return ThroughOthers.NONE;
        return text.startsWith("'") ? text.charAt(1) : Integer.parseInt(text);
    }

    private static boolean tableHas(List<String> lines, String name) {
        return lines.stream().anyMatch(line -> line.startsWith("|") && line.contains("`" + name + "`"));
    }
}
