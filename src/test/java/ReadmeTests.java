import java.io.IOException;
import java.lang.reflect.Method;
import java.lang.reflect.Modifier;
import java.nio.file.Files;
import java.nio.file.Path;
import java.util.Set;
import java.util.TreeSet;
import java.util.regex.Matcher;
import java.util.regex.Pattern;

/** Makes each call of the examples in README.md (where it is run, or the file named), and asks for what it tells. */
public final class ReadmeTests {
    private static final String MADE = "ExpressionDesk desk = new ExpressionDesk();";
    private static final Pattern CALL = Pattern.compile(
            "(?:(?:int|long|boolean) (\\w+) = )?desk\\.(\\w+\\(.*\\)); +// (-?\\w+)(?:: .*)?");

    private static final Set<String> missing = new TreeSet<>();
    private static Calls calls;

    public static void main(String[] args) throws IOException {
        for (Method method : ExpressionDesk.class.getDeclaredMethods()) {
            if (Modifier.isPublic(method.getModifiers())) {
                missing.add(method.getName());
            }
        }
        boolean inExample = false;
        for (String line : Files.readAllLines(Path.of(args.length > 0 ? args[0] : "README.md"))) {
            if (line.startsWith("```")) {
                inExample = line.equals("```java");
            } else if (inExample) {
                show(line);
            }
        }
        Due.is("calls of the face that README.md does not show", missing.toString(), "[]");
        Due.end("ReadmeTests");
    }

    private static void show(String line) {
        if (line.equals(MADE)) {
            calls = new Calls(new Desk());
            return;
        }
        Matcher matcher = CALL.matcher(line);
        if (calls == null || !matcher.matches()) {
            Due.is(line, "no call", "a call with its answer");
            return;
        }
        String call = matcher.group(2);
        String answer = calls.make(call);
        missing.remove(call.substring(0, call.indexOf('(')));
        Due.is("README.md, " + call, answer, asNumber(matcher.group(3)));
        if (matcher.group(1) != null) {
            calls.keep(matcher.group(1), answer);
        }
    }

    private static String asNumber(String told) {
        switch (told) {
            case "BAD":
                return "" + ExpressionDesk.BAD;
            case "NO":
                return "" + ExpressionDesk.NO;
            case "FULL":
                return "" + ExpressionDesk.FULL;
            case "ERROR":
                return "" + ExpressionDesk.ERROR;
            default:
                return told;
        }
    }
}
