import java.io.IOException;
import java.lang.reflect.Method;
import java.lang.reflect.Modifier;
import java.nio.file.Files;
import java.nio.file.Path;
import java.util.regex.Matcher;
import java.util.regex.Pattern;

/** The calls of README.md and the answers that stand behind them. */
public final class ReadmeTest {
    private static final Pattern BLOCK = Pattern.compile("(?s)```java\n(.*?)```");
    private static final String NEW_OBJECT = "EventStructures x = new EventStructures();";
    private static final Pattern TEXT = Pattern.compile(
            "for \\(char c : \"([^\"]*)\"\\.toCharArray\\(\\)\\) \\{\n {4}x\\.append\\(c\\);\n}\n");
    private static final Pattern CALL = Pattern.compile(
            "x\\.(\\w+)\\(([^()]*)\\); +// (-?[0-9]+|[A-Z_]+)(:[^\n]*)?\n");

    private ReadmeTest() {
    }

    private static int answer(String text) throws ReflectiveOperationException {
        boolean isConstant = Character.isUpperCase(text.charAt(0));
        return isConstant ? EventStructures.class.getField(text).getInt(null) : Integer.parseInt(text);
    }

    /** Makes the calls of a block; gives what could not be read. */
    private static String run(String block) throws ReflectiveOperationException {
        EventStructures x = new EventStructures();
        String rest = block;
        Checks.due("a block begins with a new object", rest.startsWith(NEW_OBJECT) ? 1 : 0, 1);
        rest = rest.substring(Math.min(NEW_OBJECT.length(), rest.length())).stripLeading();
        while (!rest.isEmpty()) {
            Matcher text = TEXT.matcher(rest);
            Matcher call = CALL.matcher(rest);
            if (text.lookingAt()) {
                Make.write(x, text.group(1));
                rest = rest.substring(text.end()).stripLeading();
            } else if (call.lookingAt()) {
                String line = call.group(1) + " " + call.group(2).replace(",", "");
                Checks.due("README: " + line, Script.call(x, line), answer(call.group(3)));
                rest = rest.substring(call.end()).stripLeading();
            } else {
                return rest;
            }
        }
        return rest;
    }

    public static void main(String[] args) throws IOException, ReflectiveOperationException {
        String page = Files.readString(Path.of("README.md"));
        int blocks = 0;
        for (Matcher block = BLOCK.matcher(page); block.find(); blocks++) {
            String unread = run(block.group(1));
            Checks.due("README: all can be read but: " + unread, unread.length(), 0);
        }
        Checks.due("README: there are blocks", blocks > 0 ? 1 : 0, 1);
        for (Method method : EventStructures.class.getDeclaredMethods()) {
            boolean isPublic = Modifier.isPublic(method.getModifiers());
            boolean isNamed = page.contains("x." + method.getName() + "(");
            Checks.due("README: names " + method.getName(), !isPublic || isNamed ? 1 : 0, 1);
        }
        Checks.due("README: tells how to run the tests", page.contains(".ci/run") ? 1 : 0, 1);
        Checks.finish();
    }
}
