import java.io.IOException;
import java.lang.reflect.Constructor;
import java.lang.reflect.Field;
import java.lang.reflect.InvocationTargetException;
import java.lang.reflect.Method;
import java.lang.reflect.Modifier;
import java.nio.file.Files;
import java.nio.file.Path;
import java.util.ArrayList;
import java.util.Arrays;
import java.util.Comparator;
import java.util.List;
import java.util.Random;
import java.util.TreeSet;
import java.util.regex.Matcher;
import java.util.regex.Pattern;

/** The face that the document tells, the rules of the language, and calls that never fail. */
public final class FaceTests {
    private static final Check check = new Check();

    private static String signature(Method m) {
        StringBuilder text = new StringBuilder(m.getReturnType().getSimpleName() + " " + m.getName() + "(");
        for (Class<?> c : m.getParameterTypes()) {
            text.append(c.getSimpleName()).append(',');
        }
        return text.append(')').toString();
    }

    private static void face() throws IOException {
        check.about("the face");
        TreeSet<String> due = new TreeSet<>();
        Matcher m = Pattern.compile("    public (int|long) (\\w+)\\(([^)]*)\\);").matcher(
            Files.readString(Path.of("../shared/DOC.md")));
        while (m.find()) {
            StringBuilder text = new StringBuilder(m.group(1) + " " + m.group(2) + "(");
            for (String parameter : m.group(3).isEmpty() ? new String[0] : m.group(3).split(", ")) {
                text.append(parameter.split(" ")[0]).append(',');
            }
            due.add(text.append(')').toString());
        }
        check.due("methods of the document", due.size(), 73);
        TreeSet<String> found = new TreeSet<>();
        for (Method method : SisterCount.class.getDeclaredMethods()) {
            if (!Modifier.isPrivate(method.getModifiers())) {
                check.isTrue("public " + method, Modifier.isPublic(method.getModifiers()));
                found.add(signature(method));
            }
        }
        check.isTrue("methods " + due + " are " + found, due.equals(found));
        for (Field field : SisterCount.class.getDeclaredFields()) {
            if (!Modifier.isPrivate(field.getModifiers())) {
                check.isTrue("field " + field, field.getName().equals("NONE"));
            }
        }
        Constructor<?>[] constructors = SisterCount.class.getDeclaredConstructors();
        check.due("constructors", constructors.length, 1);
        check.isTrue("final", Modifier.isFinal(SisterCount.class.getModifiers()));
    }

    private static void classes() {
        check.about("LANGUAGE.md, rules 1, 2, 5, 11");
        List<Class<?>> all = new ArrayList<>(List.of(SisterCount.class.getDeclaredClasses()));
        check.isTrue("at most twelve classes", all.size() < 12);
        TreeSet<String> names = new TreeSet<>();
        for (Method m : SisterCount.class.getMethods()) {
            names.add(m.getName());
        }
        all.add(SisterCount.class);
        for (Class<?> c : all) {
            check.isTrue("static " + c, c == SisterCount.class || Modifier.isStatic(c.getModifiers()));
            int fields = 0;
            for (Field f : c.getDeclaredFields()) {
                boolean isStatic = Modifier.isStatic(f.getModifiers());
                check.isTrue("final " + f, !isStatic || Modifier.isFinal(f.getModifiers()));
                fields += isStatic ? 0 : 1;
            }
            check.isTrue("fields of " + c, fields <= 20);
            for (Method m : c.getDeclaredMethods()) {
                check.isTrue("parameters of " + m, m.getParameterCount() <= 7);
                check.isTrue("name of " + m, Modifier.isPublic(m.getModifiers()) || !names.contains(m.getName()));
            }
        }
    }

    private static void source() throws IOException {
        check.about("LANGUAGE.md, rules 3 to 6, 11, 12");
        String text = Files.readString(Path.of("src/main/java/SisterCount.java"));
        String code = text.replaceAll("(?s)/\\*.*?\\*/", "").replaceAll("//.*", "");
        for (String word : List.of("throw", "throws", "try", "catch", "synchronized", "assert", "double", "float")) {
            check.isTrue("no " + word, !Pattern.compile("\\b" + word + "\\b").matcher(code).find());
        }
        check.isTrue("no lambda", !code.contains("->") && !code.contains("::"));
        check.isTrue("no joined texts", !code.contains("\" +") && !code.contains("+ \""));
        check.isTrue("signs 1 to 127", text.chars().allMatch(c -> c > 0 && c < 128));
        Matcher imports = Pattern.compile("import ([\\w.]+);").matcher(code);
        while (imports.find()) {
            check.isTrue("import " + imports.group(1), imports.group(1).equals("java.util.Arrays"));
        }
        Matcher library = Pattern.compile("\\b(Integer|Math|Arrays|System)\\.(\\w+)").matcher(code);
        while (library.find()) {
            check.isTrue("library " + library.group(), List.of("bitCount", "abs", "min", "max", "fill",
                "arraycopy", "MIN_VALUE", "MAX_VALUE").contains(library.group(2)));
        }
        // Objects are made with the object alone, so that no call makes any.
        for (String line : code.split("\n")) {
            if (line.contains("new ")) {
                check.isTrue("made once: " + line.trim(),
                    line.matches("\\s+(private )?final .* = new .*;|\\s+(images|slots)\\[k\\] = new \\w+\\(\\);"));
            }
        }
        int length = 0;
        for (String line : code.split("\n")) {
            boolean opens = line.matches("    (    )?(public|private|static|[a-z]).*\\) \\{");
            length = opens ? 1 : length + 1;
            if (line.matches("    (    )?\\}")) {
                check.isTrue("a method of " + length + " lines", length <= 60 || line.equals("    }"));
            }
        }
    }

    private static final int[] EDGES = {
        Integer.MIN_VALUE, Integer.MIN_VALUE + 1, -1_000_000, -2, -1, 0, 1, 2, 3, 4, 5, 6, 7, 8, 9, 10, 11, 15,
        16, 19, 20, 21, 30, 31, 59, 60, 61, 63, 64, 99, 100, 101, 1199, 1200, 1201, 2_000_000_000, 2_000_000_001,
        Integer.MAX_VALUE - 1, Integer.MAX_VALUE};

    private static final String[] TEXTS = {
        "", ";", "town school 0 to 30;", "town school 3 to 9;house;",
        "town school 0 to 30;" + ("house;" + "girl 5;boy 6 half;girl 5 half;boy 30;girl 30 dead;").repeat(4)
            + "ask all;ask sisters older;ask brothers younger;ask all living whole;ask all whole;ask sisters;"
            + "slip 19 5 20;",
        "town school 4 to 12;house;" + "girl 9;".repeat(6) + "house;" + "boy 30;".repeat(6) + "house;" + "girl 20;".repeat(6)
            + "house;girl 30;boy 0;house;house;house;house;ask all;slip 0 0 1;"};

    /** Runs of 512 calls with all kinds of arguments: none throws, and the same calls answer the same. */
    private static void fuzz() throws ReflectiveOperationException {
        check.about("calls that never fail");
        Method[] methods = Arrays.stream(SisterCount.class.getDeclaredMethods())
            .filter(m -> Modifier.isPublic(m.getModifiers()))
            .sorted(Comparator.comparing(Method::getName)).toArray(Method[]::new);
        for (int seed = 0; seed < 600; seed++) {
            check.due("two runs from seed " + seed + " are the same", run(methods, seed), run(methods, seed));
        }
    }

    private static long run(Method[] methods, int seed) throws ReflectiveOperationException {
        Random r = new Random(seed);
        SisterCount x = new SisterCount();
        long sum = 0;
        for (int i = 0; i < 400; i++) {
            if (r.nextInt(40) == 0) {
                Check.feedText(x, TEXTS[r.nextInt(TEXTS.length)]);
                sum = 31 * sum + x.town();
            }
            Method m = methods[r.nextInt(methods.length)];
            Object[] arguments = new Object[m.getParameterCount()];
            for (int k = 0; k < arguments.length; k++) {
                int any = r.nextInt(3) == 0 ? EDGES[r.nextInt(EDGES.length)] : r.nextInt(8);
                arguments[k] = m.getParameterTypes()[k] == long.class ? (Object) (long) any : (Object) any;
            }
            try {
                sum = 31 * sum + ((Number) m.invoke(x, arguments)).longValue();
            } catch (InvocationTargetException e) {
                check.isTrue("seed " + seed + ": " + m + Arrays.toString(arguments) + " threw " + e.getCause(), false);
            }
        }
        return sum;
    }

    public static void main(String[] args) throws Exception {
        face();
        classes();
        source();
        fuzz();
        check.finish("FaceTests");
    }
}
