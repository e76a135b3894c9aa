import java.io.IOException;
import java.lang.reflect.Method;
import java.nio.file.Files;
import java.nio.file.Path;
import java.util.regex.Matcher;
import java.util.regex.Pattern;

/** README.md tells how to use the class: each call there answers what stands behind it. */
public final class ReadmeTest {
    private static final Due D = Due.begin();
    private static final Pattern EXAMPLE = Pattern.compile("(?s)```java\n(.*?)```");
    private static final Pattern TEXT = Pattern.compile("\"(.*)\"\\.toCharArray\\(\\)");
    private static final Pattern CALL = Pattern.compile("house\\.(\\w+)\\((.*?)\\); +// (-?\\d+): .*");

    public static void main(String[] args) throws IOException, ReflectiveOperationException {
        String page = Files.readString(Path.of("README.md"));
        Matcher example = EXAMPLE.matcher(page);
        D.isSo("README.md has an example", example.find());
        ask(example.group(1));
        everyCallIsNamed(page);
        D.end("ReadmeTest");
    }

    private static void ask(String example) throws ReflectiveOperationException {
        GriefDoors house = new GriefDoors();
        for (String row : example.split("\n")) {
            Matcher text = TEXT.matcher(row);
            Matcher call = CALL.matcher(row);
            if (text.find()) {
                Due.write(house, text.group(1));
            } else if (call.matches()) {
                D.due(0, row, answer(house, call.group(1), call.group(2)), Integer.parseInt(call.group(3)));
            } else {
                D.isSo("a row that is no call: " + row, !row.contains("//"));
            }
        }
    }

    private static int answer(GriefDoors house, String name, String inside) throws ReflectiveOperationException {
        String[] words = inside.isEmpty() ? new String[0] : inside.split(", ");
        Object[] numbers = new Object[words.length];
        for (int k = 0; k < words.length; k++) {
            numbers[k] = words[k].equals("GriefDoors.NONE") ? GriefDoors.NONE : Integer.parseInt(words[k]);
        }
        return (int) method(name).invoke(house, numbers);
    }

    private static Method method(String name) throws NoSuchMethodException {
        for (Method method : GriefDoors.class.getMethods()) {
            if (method.getName().equals(name)) {
                return method;
            }
        }
        throw new NoSuchMethodException(name);
    }

    private static void everyCallIsNamed(String page) {
        for (Method method : GriefDoors.class.getMethods()) {
            if (method.getDeclaringClass() == GriefDoors.class) {
                D.isSo("README.md names " + method.getName(), page.contains("`" + method.getName() + "`"));
            }
        }
    }
}
