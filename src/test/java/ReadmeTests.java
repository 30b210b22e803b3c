import java.io.IOException;
import java.lang.reflect.Method;
import java.lang.reflect.Modifier;
import java.nio.file.Files;
import java.nio.file.Path;
import java.util.List;
import java.util.regex.Matcher;
import java.util.regex.Pattern;
import java.util.stream.Stream;

/** README.md: its examples answer what it says, and it names every call, constant and test. */
final class ReadmeTests {
    private static final Pattern CALL = Pattern.compile("wall\\.(\\w+)\\((.*?)\\);(?:\\s*// (-?\\w+).*)?");
    private static final Pattern FEED = Pattern.compile("feed\\(wall, \"(.*)\"\\);");
    private static final Pattern BLOCK = Pattern.compile("(?s)```java\n(.*?)```");

    private static BillWall wall = new BillWall();

    private ReadmeTests() {
    }

    public static void main(String[] args) throws IOException, ReflectiveOperationException {
        String page = Files.readString(Path.of("README.md"));
        examples(page);
        names(page);
        Due.end("ReadmeTests");
    }

    private static void examples(String page) throws ReflectiveOperationException {
        int calls = 0;
        Matcher block = BLOCK.matcher(page);
        while (block.find()) {
            // the one that has a body is a helper, the same as Due.feed
            if (!block.group(1).contains("{")) {
                for (String line : block.group(1).split("\n")) {
                    oneLine(line);
                    calls++;
                }
            }
        }
        Due.due("there are examples", 1, calls > 20 ? 1 : 0);
    }

    private static void oneLine(String line) throws ReflectiveOperationException {
        Matcher fed = FEED.matcher(line);
        Matcher call = CALL.matcher(line);
        if (line.equals("BillWall wall = new BillWall();")) {
            wall = new BillWall();
        } else if (fed.matches()) {
            Due.feed(wall, fed.group(1));
        } else if (call.matches() && call.group(3) != null) {
            Due.due(line, number(call.group(3)), answer(call.group(1), call.group(2)));
        } else {
            Due.due("is read: " + line, 1, 0);
        }
    }

    private static long answer(String name, String list) throws ReflectiveOperationException {
        List<String> told = list.isEmpty() ? List.of() : List.of(list.split(", "));
        for (Method method : BillWall.class.getDeclaredMethods()) {
            if (method.getName().equals(name) && method.getParameterCount() == told.size()) {
                Object[] arguments = new Object[told.size()];
                for (int i = 0; i < arguments.length; i++) {
                    long value = number(told.get(i));
                    boolean isLong = method.getParameterTypes()[i] == long.class;
                    arguments[i] = isLong ? (Object) value : (Object) (int) value;
                }
                return (int) method.invoke(wall, arguments);
            }
        }
        Due.due("a call: " + name, 1, 0);
        return 0;
    }

    private static long number(String told) throws ReflectiveOperationException {
        return told.matches("[A-Z]+") ? BillWall.class.getField(told).getInt(null)
                : Long.decode(told.replaceAll("L$", ""));
    }

    private static void names(String page) throws IOException {
        for (Method method : BillWall.class.getDeclaredMethods()) {
            if (Modifier.isPublic(method.getModifiers())) {
                String row = "\n| `" + method.getName() + "(";
                Due.due("names the call " + method.getName(), 1, page.contains(row) ? 1 : 0);
            }
        }
        for (String constant : List.of("UNKNOWN", "OUTSIDE", "NOT", "FULL", "NONE")) {
            Due.due("names " + constant, 1, page.contains("`" + constant + "`") ? 1 : 0);
        }
        try (Stream<Path> files = Files.list(Path.of("src/test/java"))) {
            for (Path file : files.toList()) {
                String name = file.getFileName().toString().replace(".java", "");
                Due.due("names the test " + name, 1, page.contains("`" + name + "`") ? 1 : 0);
            }
        }
    }
}
