import java.lang.reflect.InvocationTargetException;
import java.lang.reflect.Method;
import java.nio.file.Files;
import java.nio.file.Path;
import java.util.HashMap;
import java.util.HashSet;
import java.util.Map;
import java.util.Set;
import java.util.regex.Matcher;
import java.util.regex.Pattern;

/** The calls that README.md shows, run as they stand there, with the answers that README.md gives for them. */
public final class ReadmeTest {
    private static final String FENCE = "```";
    private static final String NEW_ENGINE = "RuleForge forge = new RuleForge();";
    /** A type and a name for the answer, if it is kept; the call; its arguments; and behind // what it answers. */
    private static final Pattern CALL = Pattern.compile(
        "(?:(\\w+) (\\w+) = )?forge\\.(\\w+)\\(([^()]*)\\); +// (throws \\w+|[^:\\s]+)(?:: .+)?");

    private final Check check = new Check();
    private final Map<String, Method> methods = new HashMap<>();
    private final Set<String> shown = new HashSet<>();
    private final Map<String, Object> kept = new HashMap<>();
    private RuleForge forge;
    private int calls = 0;

    public static void main(String[] args) throws Exception {
        new ReadmeTest().run();
    }

    private void run() throws Exception {
        for (Method m : RuleForge.class.getMethods()) {
            if (m.getDeclaringClass() == RuleForge.class) {
                methods.put(m.getName(), m);
            }
        }
        boolean isJava = false;
        for (String line : Files.readAllLines(Path.of("README.md"))) {
            if (line.startsWith(FENCE)) {
                isJava = line.equals(FENCE + "java");
            } else if (isJava && !line.isBlank()) {
                runLine(line);
            }
        }
        for (String name : methods.keySet()) {
            check.isSo(name + "() is shown", shown.contains(name));
        }
        check.isSo("as many calls as an object is for: " + calls, calls <= 512);
        check.end();
    }

    private void runLine(String line) throws IllegalAccessException {
        if (line.equals(NEW_ENGINE)) {
            forge = new RuleForge();
            calls = 0;
            return;
        }
        Matcher parts = CALL.matcher(line);
        boolean isCall = parts.matches() && methods.containsKey(parts.group(3));
        check.isSo("a call with its answer behind it: " + line, isCall);
        if (!isCall) {
            return;
        }
        Method method = methods.get(parts.group(3));
        shown.add(method.getName());
        calls++;
        Object answer = answer(method, parts.group(4));
        check.isSo(line + " answered " + answer, String.valueOf(answer).equals(parts.group(5)));
        if (parts.group(2) != null) {
            check.isSo("of this type: " + line, method.getReturnType().getName().equals(parts.group(1)));
            check.isSo("a name of its own: " + line, kept.put(parts.group(2), answer) == null);
        }
    }

    /** What the call answers, or what it throws. */
    private Object answer(Method method, String written) throws IllegalAccessException {
        String[] words = written.isEmpty() ? new String[0] : written.split(", ");
        Object[] arguments = new Object[words.length];
        for (int i = 0; i < words.length; i++) {
            arguments[i] = argument(words[i]);
        }
        try {
            return method.invoke(forge, arguments);
        } catch (InvocationTargetException e) {
            return "throws " + e.getCause().getClass().getSimpleName();
        }
    }

    private Object argument(String word) {
        if (word.equals("true") || word.equals("false")) {
            return word.equals("true");
        }
        return kept.containsKey(word) ? kept.get(word) : (Object) Integer.valueOf(word);
    }
}
