import java.lang.reflect.Method;
import java.lang.reflect.Modifier;
import java.nio.file.Files;
import java.nio.file.Path;
import java.util.List;
import java.util.regex.Matcher;
import java.util.regex.Pattern;

/** README.md keeps its word: the calls it shows answer what it says, and it tells of every call. */
public final class ReadmeTest extends Checks {
    private static final Pattern MAKES = Pattern.compile("DrawerRoom room = new DrawerRoom\\((\\d+)\\);.*");
    private static final Pattern CALL = Pattern.compile("room\\.(\\w+)\\(([^)]*)\\);\\s*// (true|false|-?\\d+)\\b.*");

    public static void main(String[] args) throws Exception {
        List<String> lines = Files.readAllLines(Path.of("README.md"));
        examples(lines);
        everyCall(String.join("\n", lines));
        finish("ReadmeTest");
    }

    private static void examples(List<String> lines) throws ReflectiveOperationException {
        boolean shown = false;
        int calls = 0;
        DrawerRoom room = null;
        for (String line : lines) {
            if (line.startsWith("```")) {
                shown = line.equals("```java");
                room = null;
            } else if (shown) {
                Matcher makes = MAKES.matcher(line);
                Matcher call = CALL.matcher(line);
                if (makes.matches()) {
                    room = new DrawerRoom(Integer.parseInt(makes.group(1)));
                } else if (room != null && call.matches()) {
                    due(line, answer(room, call.group(1), call.group(2)), number(call.group(3)));
                    calls++;
                } else {
                    due("a line that can't be read: " + line, 0, 1);
                }
            }
        }
        due("calls were shown", calls > 0, true);
    }

    private static int answer(DrawerRoom room, String name, String words) throws ReflectiveOperationException {
        String[] told = words.isBlank() ? new String[0] : words.split(", *");
        for (Method method : DrawerRoom.class.getDeclaredMethods()) {
            if (!method.getName().equals(name) || !Modifier.isPublic(method.getModifiers())) continue;
            Object[] values = new Object[told.length];
            for (int i = 0; i < told.length; i++) {
                boolean flag = told[i].equals("true") || told[i].equals("false");
                values[i] = flag ? (Object) Boolean.valueOf(told[i]) : (Object) number(told[i]);
            }
            Object got = method.invoke(room, values);
            return number(got.toString());
        }
        due("the call " + name + " is there", false, true);
        return NONE;
    }

    private static int number(String word) {
        if (word.equals("true")) return 1;
        if (word.equals("false")) return 0;
        return word.equals("DrawerRoom.NONE") ? NONE : Integer.decode(word);
    }

    private static void everyCall(String text) {
        for (Method method : DrawerRoom.class.getDeclaredMethods()) {
            if (!Modifier.isPublic(method.getModifiers())) continue;
            due("told of: " + method.getName(), text.contains("`" + method.getName() + "("), true);
        }
    }
}
