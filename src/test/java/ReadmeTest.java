import java.lang.reflect.Field;
import java.lang.reflect.Method;
import java.lang.reflect.Modifier;
import java.nio.file.DirectoryStream;
import java.nio.file.Files;
import java.nio.file.Path;
import java.util.List;
import java.util.regex.Matcher;
import java.util.regex.Pattern;

/** README.md: every call that it shows is made and compared, and what there is to name is named. */
public final class ReadmeTest {
    private static final Path README = Path.of("README.md");
    private static final Path TESTS = Path.of("src/test/java");
    private static final Pattern TYPED = Pattern.compile("for \\(char c : \"([^\"]*)\"\\.toCharArray\\(\\)\\) x\\.type\\(c\\);");
    private static final Pattern CALL = Pattern.compile("x\\.(\\w+)\\(([^)]*)\\);\\s*// (-?\\d+|[A-Z]+)(:.*)?");
    private static final Pattern ROW = Pattern.compile("\\n\\| `(\\w+)\\(([^)]*)\\)` \\|");
    private static final int MOST_CALLS = 512;
    private static final Check c = new Check();

    private static NineLamps x = null;
    private static int calls = 0;

    public static void main(String[] args) throws Exception {
        List<String> page = Files.readAllLines(README);
        examples(page);
        String all = String.join("\n", page);
        calls(all);
        refusals(all);
        classes(all);
        tests(all);
        c.end();
    }

    private static void examples(List<String> page) throws Exception {
        boolean inside = false;
        int blocks = 0;
        for (String line : page) {
            if (line.startsWith("```")) {
                inside = line.equals("```java");
                blocks += inside ? 1 : 0;
                x = null;
            } else if (inside) {
                example(line.trim());
            }
        }
        c.holds("there are examples", blocks > 0);
    }

    private static void example(String line) throws Exception {
        Matcher typed = TYPED.matcher(line);
        Matcher call = CALL.matcher(line);
        if (line.equals("NineLamps x = new NineLamps();")) {
            x = new NineLamps();
            calls = 0;
        } else if (x != null && typed.matches()) {
            Check.type(x, typed.group(1));
            calls += typed.group(1).length();
        } else if (x != null && call.matches()) {
            c.due(line, answer(call.group(1), call.group(2)), number(call.group(3)));
            calls++;
        } else {
            c.holds("can't be read: " + line, false);
        }
        c.holds("no more calls than are promised: " + line, calls <= MOST_CALLS);
    }

    private static int answer(String name, String told) throws Exception {
        String[] words = told.isEmpty() ? new String[0] : told.split(", ");
        for (Method m : NineLamps.class.getDeclaredMethods()) {
            if (m.getName().equals(name) && Modifier.isPublic(m.getModifiers()) && m.getParameterCount() == words.length) {
                Object[] values = new Object[words.length];
                for (int i = 0; i < words.length; i++) {
                    values[i] = m.getParameterTypes()[i] == long.class ? (Object) Long.valueOf(words[i]) : (Object) Integer.valueOf(words[i]);
                }
                return (int) m.invoke(x, values);
            }
        }
        throw new IllegalArgumentException("README.md shows a call that there is not: " + name + "(" + told + ")");
    }

    private static int number(String word) throws Exception {
        return Character.isLetter(word.charAt(0)) ? NineLamps.class.getField(word).getInt(null) : Integer.parseInt(word);
    }

    /** Each has its row in a table, with its arguments, and is shown in an example. */
    private static void calls(String all) {
        int rows = 0;
        for (Matcher row = ROW.matcher(all); row.find(); rows++) {
            c.due("arguments of " + row.group(1), arguments(row.group(2)), parameters(row.group(1)));
        }
        int calls = 0;
        for (Method m : NineLamps.class.getDeclaredMethods()) {
            if (Modifier.isPublic(m.getModifiers())) {
                calls++;
                c.holds("told: " + m.getName(), all.contains("\n| `" + m.getName() + "("));
                c.holds("shown: " + m.getName(), all.contains("\nx." + m.getName() + "("));
            }
        }
        c.due("a row for each call", rows, calls);
    }

    private static int arguments(String told) {
        return told.isEmpty() ? 0 : told.split(", ").length;
    }

    private static int parameters(String name) {
        for (Method m : NineLamps.class.getDeclaredMethods()) {
            if (m.getName().equals(name) && Modifier.isPublic(m.getModifiers())) {
                return m.getParameterCount();
            }
        }
        return -1;
    }

    private static void refusals(String all) throws Exception {
        for (Field f : NineLamps.class.getFields()) {
            c.holds("told: " + f.getName(), all.contains("| `" + f.getName() + "` | " + f.getInt(null) + " |"));
            c.holds("shown: " + f.getName(), Pattern.compile("// " + f.getName() + "\\b").matcher(all).find());
        }
    }

    private static void classes(String all) {
        for (Class<?> k : NineLamps.class.getDeclaredClasses()) {
            c.holds("named: " + k.getSimpleName(), all.contains("`" + k.getSimpleName() + "`"));
        }
    }

    private static void tests(String all) throws Exception {
        int seen = 0;
        try (DirectoryStream<Path> files = Files.newDirectoryStream(TESTS, "*Test.java")) {
            for (Path file : files) {
                seen++;
                String name = file.getFileName().toString().replace(".java", "");
                c.holds("named: " + name, all.contains("`" + name + "`"));
            }
        }
        c.holds("there are tests", seen > 0);
    }
}
