import java.io.File;
import java.lang.reflect.Method;
import java.lang.reflect.Modifier;
import java.nio.file.Files;
import java.nio.file.Path;
import java.util.ArrayList;
import java.util.Arrays;
import java.util.List;
import java.util.regex.Matcher;
import java.util.regex.Pattern;

/** README.md: its example answers what stands behind each call, and it names every call and every test. */
public final class ReadmeTest {
    private static final Checks C = new Checks("ReadmeTest");
    private static final Pattern CALL = Pattern.compile("x\\.(\\w+)\\(([^)]*)\\); +// (-?\\d+): .+");

    public static void main(String[] args) throws Exception {
        String page = Files.readString(Path.of("README.md"));
        example(page);
        namesEveryCall(page);
        namesEveryTest(page);
        C.finish();
    }

    private static void example(String page) throws Exception {
        int from = page.indexOf("```java\n");
        int to = page.indexOf("```\n", from + 3);
        C.due("there is an example", true, from >= 0 && to > from);
        LinenGuilt x = new LinenGuilt();
        int calls = 0;
        for (String line : page.substring(from, to).split("\n")) {
            Matcher call = CALL.matcher(line);
            if (call.matches()) {
                C.due(line, Long.parseLong(call.group(3)), answer(x, call.group(1), call.group(2)));
                calls++;
            } else {
                C.due("a line without an answer calls nothing: " + line, false, line.startsWith("x."));
            }
        }
        C.due("the example has calls", true, calls > 0);
    }

    private static long answer(LinenGuilt x, String name, String told) throws Exception {
        List<Object> numbers = new ArrayList<>();
        for (String number : told.isEmpty() ? new String[0] : told.split(", ")) {
            numbers.add(Integer.decode(number));
        }
        Class<?>[] types = new Class<?>[numbers.size()];
        Arrays.fill(types, int.class);
        return ((Number) LinenGuilt.class.getMethod(name, types).invoke(x, numbers.toArray())).longValue();
    }

    private static void namesEveryCall(String page) {
        for (Method m : LinenGuilt.class.getDeclaredMethods()) {
            if (Modifier.isPublic(m.getModifiers())) {
                C.due("it names " + m.getName(), true, page.contains("`" + m.getName() + "`"));
            }
        }
    }

    private static void namesEveryTest(String page) {
        for (String file : new File("src/test/java").list()) {
            String name = file.replace(".java", "");
            C.due("it names " + name, true, name.equals("help") || page.contains("`" + name + "`"));
        }
    }
}
