import java.lang.reflect.Method;
import java.lang.reflect.Modifier;
import java.nio.file.Files;
import java.nio.file.Path;
import java.util.Set;
import java.util.TreeSet;
import java.util.regex.Matcher;
import java.util.regex.Pattern;

/** README.md's example answers what stands behind its calls, and its table has every call once. */
public final class ReadmeTest {
    private static final Path README = Path.of("README.md");

    public static void main(String[] args) throws Exception {
        String text = Files.readString(README);
        example(text);
        table(text);
        Check.end();
    }

    private static void example(String text) throws Exception {
        Matcher block = Pattern.compile("(?s)```java\n(.*?)```").matcher(text);
        Check.that("README.md has an example", block.find());
        String code = block.group(1);
        Matcher signs = Pattern.compile("String signs = \"(.*?)\";").matcher(code);
        Check.that("its CAVE", signs.find());
        LampCave x = new LampCave();
        Check.write(x, 0, signs.group(1));
        Matcher line = Pattern.compile("(?m)^x\\.(\\w+)\\(([-\\d, ]*)\\); +// (-?\\d+):").matcher(code);
        int lines = 0;
        while (line.find()) {
            lines++;
            Check.due(line.group(), answer(x, line.group(1), line.group(2)), Long.parseLong(line.group(3)));
        }
        Check.due("calls with answers", lines, code.split("\n *x\\.").length - 3);
    }

    private static long answer(LampCave x, String name, String given) throws Exception {
        String[] words = given.isEmpty() ? new String[0] : given.split(", ");
        Class<?>[] types = new Class<?>[words.length];
        Object[] values = new Object[words.length];
        for (int i = 0; i < words.length; i++) {
            types[i] = int.class;
            values[i] = Integer.parseInt(words[i]);
        }
        return ((Number) LampCave.class.getMethod(name, types).invoke(x, values)).longValue();
    }

    private static void table(String text) {
        Set<String> due = new TreeSet<>();
        for (Method method : LampCave.class.getDeclaredMethods()) {
            if (Modifier.isPublic(method.getModifiers())) {
                due.add(method.getName());
            }
        }
        Set<String> got = new TreeSet<>();
        Matcher row = Pattern.compile("(?m)^\\| [^-|]*\\| (`.*) \\|$").matcher(text);
        while (row.find()) {
            Matcher name = Pattern.compile("`(\\w+)`").matcher(row.group(1));
            while (name.find()) {
                Check.that("once in the table: " + name.group(1), got.add(name.group(1)));
            }
        }
        Check.that("the table has every call: " + got, got.equals(due));
    }
}
