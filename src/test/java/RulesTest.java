import java.io.IOException;
import java.lang.reflect.Modifier;
import java.nio.charset.StandardCharsets;
import java.nio.file.Files;
import java.nio.file.Path;
import java.util.Arrays;
import java.util.List;
import java.util.Set;
import java.util.TreeSet;
import java.util.regex.Matcher;
import java.util.regex.Pattern;

/** What can be seen of LANGUAGE.md's rules in the text of FilterBench.java and in the class. */
public final class RulesTest {
    private static final Set<String> FACE = Set.of("section", "coefficient", "ratio", "rule", "chain", "add", "loop",
            "within", "feed", "run", "output", "state", "about", "told", "reset", "keep", "back", "same", "poles",
            "cycles", "cycle", "convert", "measure", "count");
    private static final int LONGEST_METHOD = 60;
    private static final int MOST_CLASSES = 12;
    private static final int MOST_FIELDS = 20;

    public static void main(String[] args) throws IOException {
        List<String> lines = Files.readAllLines(Path.of("src/main/java/FilterBench.java"), StandardCharsets.UTF_8);
        words(new Check("rules: no word that they rule out"), lines);
        library(new Check("rules: the library"), lines);
        lengths(new Check("rules: short methods"), lines);
        face(new Check("rules: the face"));
        classes(new Check("rules: the classes inside"));
        Check.end();
    }

    /** The line without its comment; the program has no text in quotes. */
    private static String code(String line) {
        String bare = line.strip();
        if (bare.startsWith("*") || bare.startsWith("/*")) {
            return "";
        }
        int comment = bare.indexOf("//");
        return comment < 0 ? bare : bare.substring(0, comment);
    }

    private static void words(Check t, List<String> lines) {
        Pattern out = Pattern.compile("\\b(double|float|try|catch|finally|throw|throws|synchronized|assert|instanceof"
                + "|package|protected|volatile|transient|native|strictfp|var|record)\\b|->|::|\"|@|Exact\\b");
        for (int i = 0; i < lines.size(); i++) {
            Matcher m = out.matcher(code(lines.get(i)));
            if (m.find()) {
                t.fail("line " + (i + 1) + " has " + m.group());
            }
            for (char c : lines.get(i).toCharArray()) {
                if (c < 32 || c > 126) {
                    t.fail("line " + (i + 1) + " has the sign " + (int) c);
                }
            }
        }
        t.close();
    }

    private static void library(Check t, List<String> lines) {
        Set<String> allowed = Set.of("Long.compare", "Math.abs", "Math.min", "Math.max", "Math.floorDiv", "Arrays.fill");
        Pattern call = Pattern.compile("\\b(Long|Integer|Math|Arrays|System|Short|Double|Float|String|Object)\\b(\\.\\w+)?");
        for (String line : lines) {
            String code = code(line);
            if (code.startsWith("import")) {
                t.yes("import: " + code, code.equals("import java.util.Arrays;"));
                continue;
            }
            Matcher m = call.matcher(code);
            while (m.find()) {
                t.yes(m.group(), allowed.contains(m.group()));
            }
        }
        t.close();
    }

    private static void lengths(Check t, List<String> lines) {
        int start = -1;
        String indent = "";
        for (int i = 0; i < lines.size(); i++) {
            String line = lines.get(i);
            if (start < 0 && line.matches(" {4,8}[\\w\\[\\] ]+\\([^;]*\\) \\{")) {
                start = i;
                indent = line.substring(0, line.length() - line.stripLeading().length());
            } else if (start >= 0 && line.equals(indent + "}")) {
                t.yes("the method at line " + (start + 1) + " is short", i - start < LONGEST_METHOD);
                start = -1;
            }
        }
        t.due("each method ends", start, -1);
        t.close();
    }

    private static void face(Check t) {
        Set<String> found = new TreeSet<>();
        Arrays.stream(FilterBench.class.getDeclaredMethods()).filter(m -> !m.isSynthetic()).forEach(m -> {
            if (Modifier.isPublic(m.getModifiers())) {
                found.add(m.getName());
                t.due("exceptions of " + m, m.getExceptionTypes().length, 0);
            } else {
                t.yes(m + " is private", Modifier.isPrivate(m.getModifiers()));
                t.no(m + " bears a public name", FACE.contains(m.getName()));
            }
        });
        t.yes("the methods are the document's: " + found, found.equals(FACE));
        t.due("constructors", FilterBench.class.getDeclaredConstructors().length, 1);
        Arrays.stream(FilterBench.class.getDeclaredFields()).forEach(f -> {
            boolean none = f.getName().equals("NONE");
            t.yes(f + " is private", none || Modifier.isPrivate(f.getModifiers()));
            t.yes(f + " is final if it is static", !Modifier.isStatic(f.getModifiers()) || Modifier.isFinal(f.getModifiers()));
        });
        t.yes("final", Modifier.isFinal(FilterBench.class.getModifiers()));
        t.close();
    }

    private static void classes(Check t) {
        Class<?>[] inside = FilterBench.class.getDeclaredClasses();
        t.yes("not too many", inside.length + 1 <= MOST_CLASSES);
        fieldsOf(t, FilterBench.class);
        for (Class<?> c : inside) {
            t.yes(c + " is static", Modifier.isStatic(c.getModifiers()));
            fieldsOf(t, c);
            Arrays.stream(c.getDeclaredMethods()).forEach(m -> {
                t.no(m + " bears a public name", FACE.contains(m.getName()));
                t.yes(m + " has few parameters", m.getParameterCount() <= 7);
            });
        }
        t.close();
    }

    private static void fieldsOf(Check t, Class<?> c) {
        long own = Arrays.stream(c.getDeclaredFields()).filter(f -> !Modifier.isStatic(f.getModifiers())).count();
        t.yes(c + " has few fields", own <= MOST_FIELDS);
    }
}
