import java.io.IOException;
import java.lang.reflect.Method;
import java.lang.reflect.Modifier;
import java.nio.file.Files;
import java.nio.file.Path;
import java.util.regex.Matcher;
import java.util.regex.Pattern;

/** README.md: its run of calls answers what is written beside each call, and it tells of every call. */
public final class ReadmeTest {
    private static final Pattern TEXT = Pattern.compile("for \\(char c : \"(\\w*)\"\\.toCharArray\\(\\)\\) x\\.write\\(c\\);");
    private static final Pattern CALL = Pattern.compile("(?m)^x\\.(\\w+)\\(([^)]*)\\); *// (-?\\d+):");

    public static void main(String[] args) throws IOException, ReflectiveOperationException {
        String page = Files.readString(Path.of("README.md"));
        runOfCalls(page);
        everyCall(page);
        Check.end();
    }

    private static void runOfCalls(String page) throws ReflectiveOperationException {
        Check.sentence("README, the run of calls");
        BrinePans x = new BrinePans();
        Matcher text = TEXT.matcher(page);
        Check.due("there is a text", text.find() ? 1 : 0, 1);
        Check.write(x, text.group(1));
        Matcher call = CALL.matcher(page);
        int count = 0;
        while (call.find()) {
            count++;
            Check.due(call.group(1) + "(" + call.group(2) + ")", answer(x, call.group(1), call.group(2)),
                Long.parseLong(call.group(3)));
        }
        Check.due("every call has its answer beside it", count, page.lines().filter(l -> l.startsWith("x.")).count());
        Check.due("there are calls", count > 0 ? 1 : 0, 1);
    }

    private static long answer(BrinePans x, String name, String told) throws ReflectiveOperationException {
        Method method = called(name);
        Class<?>[] types = method.getParameterTypes();
        String[] words = told.isEmpty() ? new String[0] : told.split(", ");
        Object[] by = new Object[types.length];
        for (int i = 0; i < types.length; i++) {
            by[i] = valueOf(types[i], words[i]);
        }
        return ((Number) method.invoke(x, by)).longValue();
    }

    private static Method called(String name) throws NoSuchMethodException {
        for (Method method : BrinePans.class.getDeclaredMethods()) {
            if (Modifier.isPublic(method.getModifiers()) && method.getName().equals(name)) {
                return method;
            }
        }
        throw new NoSuchMethodException(name);
    }

    private static Object valueOf(Class<?> type, String word) {
        if (type == boolean.class) {
            return Boolean.valueOf(word);
        }
        if (type == long.class) {
            return Long.valueOf(word.replace("L", ""));
        }
        return Integer.valueOf(word);
    }

    private static void everyCall(String page) {
        Check.sentence("README, the table of calls");
        for (Method method : BrinePans.class.getDeclaredMethods()) {
            if (Modifier.isPublic(method.getModifiers())) {
                boolean isTold = Pattern.compile("(?m)^\\|.*`" + method.getName() + "\\(").matcher(page).find();
                Check.due("it tells of " + method.getName(), isTold ? 1 : 0, 1);
            }
        }
    }
}
