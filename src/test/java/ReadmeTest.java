import java.io.File;
import java.io.IOException;
import java.lang.reflect.Method;
import java.lang.reflect.Modifier;
import java.nio.file.Files;
import java.nio.file.Path;
import java.util.regex.Matcher;
import java.util.regex.Pattern;

/** README.md: its run of calls answers what is written behind each, and it tells of every call and test. */
public final class ReadmeTest {
    private static final Pattern TEXT = Pattern.compile("\"(E[^\"]*)\"\\.toCharArray");
    private static final Pattern CALL = Pattern.compile("(?m)^x\\.(\\w+)\\(([^)]*)\\);\\s*// (-?\\d+):");
    private static final Check C = new Check();

    public static void main(String[] args) throws IOException, ReflectiveOperationException {
        String readme = Files.readString(Path.of("README.md"));
        runOfCalls(readme);
        everyCallIsTold(readme);
        everyTestIsTold(readme);
        C.end();
    }

    private static void runOfCalls(String readme) throws ReflectiveOperationException {
        Matcher text = TEXT.matcher(readme);
        C.holds("a text is written", text.find());
        EyeDrink x = new EyeDrink();
        Check.tell(x, text.group(1));
        Matcher call = CALL.matcher(readme);
        int calls = 0;
        while (call.find()) {
            long answer = ask(x, call.group(1), call.group(2).isEmpty() ? new String[0] : call.group(2).split(", "));
            C.due("x." + call.group(1) + "(" + call.group(2) + ")", answer, Long.parseLong(call.group(3)));
            calls++;
        }
        C.due("calls that begin a line, and those with an answer", calls, Pattern.compile("(?m)^x\\.").matcher(readme)
                .results().count());
        C.holds("there are some", calls > 10);
    }

    private static long ask(EyeDrink x, String name, String[] told) throws ReflectiveOperationException {
        for (Method method : EyeDrink.class.getMethods()) {
            if (method.getName().equals(name) && method.getParameterCount() == told.length) {
                Object[] values = new Object[told.length];
                for (int i = 0; i < told.length; i++) {
                    values[i] = value(method.getParameterTypes()[i], told[i]);
                }
                return ((Number) method.invoke(x, values)).longValue();
            }
        }
        throw new IllegalArgumentException("no call " + name);
    }

    private static Object value(Class<?> type, String told) {
        if (type == boolean.class) {
            return Boolean.valueOf(told);
        }
        return type == long.class ? (Object) Long.valueOf(told) : (Object) Integer.valueOf(told);
    }

    private static void everyCallIsTold(String readme) {
        for (Method method : EyeDrink.class.getDeclaredMethods()) {
            if (Modifier.isPublic(method.getModifiers())) {
                String row = "(?m)^\\| .*`" + method.getName() + "\\([^)]*\\)`.* \\|$";
                C.holds("a row of " + method.getName(), Pattern.compile(row).matcher(readme).find());
            }
        }
    }

    private static void everyTestIsTold(String readme) {
        File[] files = new File("src/test/java").listFiles();
        C.holds("there are tests", files != null && files.length > 0);
        for (File file : files == null ? new File[0] : files) {
            String name = file.getName().replace(".java", "");
            // the ones at the bounds stand in one row
            if (!name.endsWith("BoundsTest")) {
                C.holds("README tells of " + name, readme.contains("`" + name + "`"));
            }
        }
    }
}
