import java.io.IOException;
import java.lang.reflect.Method;
import java.lang.reflect.Modifier;
import java.nio.file.Files;
import java.nio.file.Path;
import java.util.Set;
import java.util.TreeSet;
import java.util.regex.Matcher;
import java.util.regex.Pattern;

/** The examples of README.md: each answers what stands behind it, and no call is left out. */
public final class Readme {
    private static final Check CHECK = new Check();
    private static final String NEW_OBJECT = "WalledIn x = new WalledIn();";
    private static final Pattern CALL =
        Pattern.compile("x\\.(\\w+)\\(([^)]*)\\);\\s+// (-?\\d+|true|false)(:.*)?");

    public static void main(String[] args) throws IOException, ReflectiveOperationException {
        String page = Files.readString(Path.of("README.md"));
        Set<String> unseen = new TreeSet<>();
        for (Method method : WalledIn.class.getDeclaredMethods()) {
            if (Modifier.isPublic(method.getModifiers())) {
                unseen.add(method.getName());
            }
        }
        Matcher block = Pattern.compile("(?s)```java\n(.*?)```").matcher(page);
        while (block.find()) {
            runExample(block.group(1), unseen);
        }
        CHECK.due("calls without an example " + unseen, unseen.size(), 0);
        CHECK.endWith("readme");
    }

    private static void runExample(String example, Set<String> unseen)
            throws ReflectiveOperationException {
        String[] lines = example.split("\n");
        CHECK.due("an example begins with " + NEW_OBJECT, lines[0].equals(NEW_OBJECT), true);
        WalledIn x = new WalledIn();
        for (int i = 1; i < lines.length; i++) {
            Matcher call = CALL.matcher(lines[i]);
            boolean isCall = call.matches();
            CHECK.due("a call with its answer: " + lines[i], isCall, true);
            if (isCall) {
                unseen.remove(call.group(1));
                String got = String.valueOf(answer(x, call.group(1), call.group(2)));
                CHECK.due(lines[i] + " (answered " + got + ")", got.equals(call.group(3)), true);
            }
        }
    }

    private static Object answer(WalledIn x, String name, String list)
            throws ReflectiveOperationException {
        String[] words = list.isEmpty() ? new String[0] : list.split(", ");
        Class<?>[] types = new Class<?>[words.length];
        Object[] values = new Object[words.length];
        for (int i = 0; i < words.length; i++) {
            boolean isNumber = !words[i].equals("true") && !words[i].equals("false");
            types[i] = isNumber ? int.class : boolean.class;
            values[i] = isNumber ? (Object) Integer.decode(words[i]) : Boolean.valueOf(words[i]);
        }
        return WalledIn.class.getMethod(name, types).invoke(x, values);
    }
}
