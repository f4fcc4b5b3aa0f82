import java.lang.reflect.Method;
import java.lang.reflect.Modifier;
import java.nio.file.Files;
import java.nio.file.Path;
import java.util.regex.Matcher;
import java.util.regex.Pattern;

/** README.md: its calls answer what stands behind them, and it names every call of the face. */
public final class ReadmeTests {
    private static final Pattern CALL = Pattern.compile("(?m)^x\\.(\\w+)\\((.*?)\\);(?: +// (-?\\d+))?");

    private static final Check check = new Check();

    private static Method methodOf(String name) {
        for (Method m : SisterCount.class.getDeclaredMethods()) {
            if (m.getName().equals(name) && Modifier.isPublic(m.getModifiers())) {
                return m;
            }
        }
        throw new IllegalArgumentException("README.md calls " + name + ", which the face does not have");
    }

    private static Object[] arguments(Method m, String told) {
        String[] texts = told.isEmpty() ? new String[0] : told.split(", ");
        Object[] arguments = new Object[texts.length];
        for (int i = 0; i < texts.length; i++) {
            long number = Long.decode(texts[i]);
            boolean isLong = m.getParameterTypes()[i] == long.class;
            arguments[i] = isLong ? (Object) number : (Object) (int) number;
        }
        return arguments;
    }

    private static void example(String readme) throws ReflectiveOperationException {
        check.about("README.md, the example");
        SisterCount x = new SisterCount();
        int calls = 0;
        Matcher call = CALL.matcher(readme);
        while (call.find()) {
            calls++;
            check.isTrue(call.group() + " has its answer behind it", call.group(3) != null);
            Method m = methodOf(call.group(1));
            long answer = ((Number) m.invoke(x, arguments(m, call.group(2)))).longValue();
            if (call.group(3) != null) {
                check.due(call.group(), answer, Long.parseLong(call.group(3)));
            }
        }
        check.isTrue("has calls", calls > 0);
    }

    private static void names(String readme) {
        check.about("README.md, the calls");
        for (Method m : SisterCount.class.getDeclaredMethods()) {
            if (Modifier.isPublic(m.getModifiers())) {
                check.isTrue("names " + m.getName(), readme.contains("`" + m.getName() + "`"));
            }
        }
    }

    public static void main(String[] args) throws Exception {
        String readme = Files.readString(Path.of("README.md"));
        example(readme);
        names(readme);
        check.finish("ReadmeTests");
    }
}
