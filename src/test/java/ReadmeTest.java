import java.io.IOException;
import java.lang.reflect.Method;
import java.lang.reflect.Modifier;
import java.nio.charset.StandardCharsets;
import java.nio.file.Files;
import java.nio.file.Path;
import java.util.ArrayList;
import java.util.Arrays;
import java.util.HashSet;
import java.util.List;
import java.util.Set;
import java.util.regex.Matcher;
import java.util.regex.Pattern;

/** The runs of calls in README.md answer what stands behind each call, and README.md tells of every call. */
public final class ReadmeTest {
    private static final String NUMBER = "(?:Double\\.doubleToLongBits\\([-\\d.]+\\)|-?\\d+)";
    private static final Pattern CALL = Pattern.compile("bench\\.(\\w+)\\(((?:" + NUMBER + "(?:, )?)*)\\);\\s*"
            + "// (true|false|" + NUMBER + ")(?::.*)?");

    public static void main(String[] args) throws IOException {
        List<String> lines = Files.readAllLines(Path.of("README.md"), StandardCharsets.UTF_8);
        runs(new Check("README: each call of its runs answers as told"), lines);
        table(new Check("README: each call of the face is told of"), lines);
        Check.end();
    }

    /** A run begins with a new object, as its first line says. */
    private static void runs(Check t, List<String> lines) {
        FilterBench bench = null;
        Set<Method> called = new HashSet<>();
        boolean inside = false;
        for (String line : lines) {
            if (line.startsWith("```")) {
                inside = line.equals("```java");
            } else if (inside && line.equals("FilterBench bench = new FilterBench();")) {
                bench = new FilterBench();
            } else if (inside) {
                call(t, bench, line, called);
            }
        }
        for (Method m : face()) {
            t.yes(m + " is called", called.contains(m));
        }
        t.close();
    }

    private static void call(Check t, FilterBench bench, String line, Set<Method> called) {
        Matcher m = CALL.matcher(line);
        if (bench == null || !m.matches()) {
            t.fail("no call with an answer: " + line);
            return;
        }
        String[] told = m.group(2).isEmpty() ? new String[0] : m.group(2).split(", ");
        for (Method method : face()) {
            if (method.getName().equals(m.group(1)) && method.getParameterCount() == told.length) {
                called.add(method);
                t.due(line, answer(bench, method, told), number(m.group(3)));
                return;
            }
        }
        t.fail("no call of the face: " + line);
    }

    private static long answer(FilterBench bench, Method method, String[] told) {
        Object[] given = new Object[told.length];
        for (int i = 0; i < told.length; i++) {
            boolean whole = method.getParameterTypes()[i] == int.class;
            given[i] = whole ? (Object) Integer.valueOf(told[i]) : (Object) Long.valueOf(number(told[i]));
        }
        try {
            Object got = method.invoke(bench, given);
            return got instanceof Boolean b ? (b ? 1 : 0) : ((Number) got).longValue();
        } catch (ReflectiveOperationException e) {
            throw new IllegalStateException(method + " threw", e);
        }
    }

    private static long number(String told) {
        if (told.equals("true") || told.equals("false")) {
            return told.equals("true") ? 1 : 0;
        }
        int bracket = told.indexOf('(');
        if (bracket < 0) {
            return Long.parseLong(told);
        }
        return Double.doubleToLongBits(Double.parseDouble(told.substring(bracket + 1, told.length() - 1)));
    }

    /** Each row of a table tells of one call, with as many words in its brackets as the call has arguments. */
    private static void table(Check t, List<String> lines) {
        List<String> told = new ArrayList<>();
        Pattern row = Pattern.compile("\\| `(\\w+)\\(([\\w, ]*)\\)` \\| .+ \\|");
        for (String line : lines) {
            Matcher m = row.matcher(line);
            if (m.matches()) {
                told.add(m.group(1) + "/" + (m.group(2).isEmpty() ? 0 : m.group(2).split(", ").length));
            }
        }
        List<Method> face = face();
        for (Method m : face) {
            t.yes(m + " has a row", told.contains(m.getName() + "/" + m.getParameterCount()));
        }
        t.due("rows", told.size(), face.size());
        t.close();
    }

    private static List<Method> face() {
        return Arrays.stream(FilterBench.class.getDeclaredMethods())
                .filter(m -> Modifier.isPublic(m.getModifiers())).toList();
    }
}
