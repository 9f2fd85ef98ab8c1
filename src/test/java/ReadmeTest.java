import java.io.IOException;
import java.lang.reflect.Method;
import java.lang.reflect.Modifier;
import java.nio.file.DirectoryStream;
import java.nio.file.Files;
import java.nio.file.Path;
import java.util.regex.Matcher;
import java.util.regex.Pattern;

/** README.md tells how to use the class: what it shows is true, and it leaves out no call and no test. */
public final class ReadmeTest {
    private static final Pattern MADE = Pattern.compile("BottleLine x = new BottleLine\\(\\);");
    private static final Pattern TEXT = Pattern.compile("for \\(char letter : \"(.*)\"\\.toCharArray\\(\\)\\) \\{");
    private static final Pattern BODY = Pattern.compile("x\\.write\\(letter\\);|\\}");
    private static final Pattern CALL = Pattern.compile("x\\.(\\w+)\\((.*)\\); +// (-?\\d+): .+");

    private BottleLine x = new BottleLine();
    private int calls;

    public static void main(String[] args) throws Exception {
        String readme = Files.readString(Path.of("README.md"));
        new ReadmeTest().example(readme);
        namesEachCall(readme);
        namesEachTest(readme);
        Due.end("ReadmeTest");
    }

    private void example(String readme) throws Exception {
        Matcher block = Pattern.compile("(?s)```java\n(.*?)```").matcher(readme);
        while (block.find()) {
            for (String line : block.group(1).split("\n")) {
                line(line.trim());
            }
        }
        Due.is("the page shows calls", calls > 0 ? 1 : 0, 1);
    }

    private void line(String line) throws Exception {
        Matcher text = TEXT.matcher(line);
        Matcher call = CALL.matcher(line);
        if (MADE.matcher(line).matches()) {
            x = new BottleLine();
        } else if (text.matches()) {
            Due.write(x, text.group(1));
        } else if (call.matches()) {
            calls++;
            Due.is(line, answer(call.group(1), call.group(2)), Long.parseLong(call.group(3)));
        } else {
            Due.same("a line of the example that is known", BODY.matcher(line).matches() ? "" : line, "");
        }
    }

    private long answer(String name, String list) throws Exception {
        String[] given = list.isEmpty() ? new String[0] : list.split(", ");
        for (Method method : BottleLine.class.getMethods()) {
            Class<?>[] types = method.getParameterTypes();
            if (method.getName().equals(name) && types.length == given.length) {
                Object[] values = new Object[given.length];
                for (int i = 0; i < given.length; i++) {
                    values[i] = value(types[i], given[i]);
                }
                return ((Number) method.invoke(x, values)).longValue();
            }
        }
        throw new IllegalArgumentException("no method " + name + " with " + given.length + " arguments");
    }

    /** If an if-expression chose among the three, it would turn all of them into one type. */
    private static Object value(Class<?> type, String given) {
        if (type == boolean.class) {
            return Boolean.valueOf(given);
        }
        if (type == long.class) {
            return Long.valueOf(given);
        }
        return Integer.valueOf(given);
    }

    private static void namesEachCall(String readme) {
        for (Method method : BottleLine.class.getDeclaredMethods()) {
            String name = method.getName();
            if (Modifier.isPublic(method.getModifiers())) {
                Due.is("README.md names the call " + name, readme.contains("`" + name + "`") ? 1 : 0, 1);
            }
        }
    }

    private static void namesEachTest(String readme) throws IOException {
        try (DirectoryStream<Path> files = Files.newDirectoryStream(Path.of("src/test/java"), "*Test.java")) {
            for (Path file : files) {
                String name = file.getFileName().toString().replace(".java", "");
                boolean named = Pattern.compile("(?m)^\\|[^|]*\\b" + name + "\\b").matcher(readme).find();
                Due.is("README.md names the test " + name, named ? 1 : 0, 1);
            }
        }
    }
}
