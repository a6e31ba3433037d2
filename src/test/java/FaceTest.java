import java.lang.reflect.Constructor;
import java.lang.reflect.Field;
import java.lang.reflect.Method;
import java.lang.reflect.Modifier;
import java.nio.file.Files;
import java.nio.file.Path;
import java.util.Set;
import java.util.TreeSet;
import java.util.regex.Matcher;
import java.util.regex.Pattern;

/** The public face as the document has it, and what LANGUAGE.md forbids and a look at the file can tell. */
public final class FaceTest {
    private static final Path SOURCE = Path.of("src/main/java/LampCave.java");
    private static final Path DOCUMENT = Path.of("../shared/DOC.md");

    public static void main(String[] args) throws Exception {
        constants();
        methods();
        privateNames();
        words();
        library();
        sizes();
        objectsMade();
        Check.end();
    }

    private static void constants() throws Exception {
        String[] names = {"BAD", "FULL", "FINDING", "STATE", "SPENT", "NONE"};
        int[] due = {-1, -2, -3, -4, -6, -9};
        int open = 0;
        for (Field field : LampCave.class.getDeclaredFields()) {
            boolean isPrivate = Modifier.isPrivate(field.getModifiers());
            open += isPrivate ? 0 : 1;
            Check.that("static only if final: " + field.getName(),
                !Modifier.isStatic(field.getModifiers()) || Modifier.isFinal(field.getModifiers()));
        }
        Check.due("constants that are not private", open, names.length);
        for (int i = 0; i < names.length; i++) {
            Check.due(names[i], LampCave.class.getField(names[i]).getInt(null), due[i]);
        }
        Check.that("LampCave is final", Modifier.isFinal(LampCave.class.getModifiers()));
        Constructor<?>[] made = LampCave.class.getDeclaredConstructors();
        Check.due("constructors", made.length, 1);
        Check.that("the constructor is public", Modifier.isPublic(made[0].getModifiers()));
        Check.due("its parameters", made[0].getParameterCount(), 0);
    }

    private static void methods() throws Exception {
        Set<String> due = new TreeSet<>();
        Matcher line = Pattern.compile("(?m)^    public (int|long) (\\w+)\\((.*)\\);$").matcher(Files.readString(DOCUMENT));
        while (line.find()) {
            int parameters = line.group(3).isEmpty() ? 0 : line.group(3).split(",").length;
            due.add(line.group(1) + " " + line.group(2) + " " + parameters);
        }
        Set<String> got = new TreeSet<>();
        for (Method method : LampCave.class.getDeclaredMethods()) {
            if (!Modifier.isPrivate(method.getModifiers())) {
                Check.that(method.getName() + " is public", Modifier.isPublic(method.getModifiers()));
                got.add(method.getReturnType() + " " + method.getName() + " " + method.getParameterCount());
            }
        }
        Check.due("methods of the document", due.size(), 49);
        Check.that("methods are those of the document: " + got, got.equals(due));
    }

    private static void privateNames() {
        Set<String> open = new TreeSet<>();
        for (Method method : LampCave.class.getDeclaredMethods()) {
            if (Modifier.isPublic(method.getModifiers())) {
                open.add(method.getName());
            }
        }
        for (Method method : LampCave.class.getDeclaredMethods()) {
            Check.that("private, with a public one's name: " + method.getName(),
                Modifier.isPublic(method.getModifiers()) || !open.contains(method.getName()));
            Check.that("at most seven parameters: " + method.getName(), method.getParameterCount() <= 7);
        }
        for (Class<?> inside : LampCave.class.getDeclaredClasses()) {
            Check.that("static inside: " + inside.getName(), Modifier.isStatic(inside.getModifiers()));
            Check.that("not public inside: " + inside.getName(), !Modifier.isPublic(inside.getModifiers()));
            for (Method method : inside.getDeclaredMethods()) {
                Check.that("inside, with a public one's name: " + method.getName(), !open.contains(method.getName()));
            }
        }
    }

    /** The file without its comments. */
    private static String code() throws Exception {
        return Files.readString(SOURCE).replaceAll("(?s)/\\*.*?\\*/", "").replaceAll("//[^\n]*", "");
    }

    private static void words() throws Exception {
        String source = Files.readString(SOURCE);
        String code = code();
        String[] never = {"throw", "throws", "try", "catch", "synchronized", "assert", "package", "Exact", "Random",
            "System\\.(?!arraycopy)", "Thread", "hashCode", "->", "::", "double", "float", "Object", "static \\{"};
        for (String word : never) {
            String whole = Character.isLetter(word.charAt(0)) ? "\\b" + word : word;
            Check.that("the file has no " + word, !Pattern.compile(whole).matcher(code).find());
        }
        Matcher line = Pattern.compile("(?m)^import (.*);$").matcher(code);
        while (line.find()) {
            Check.that("import " + line.group(1), line.group(1).equals("java.util.Arrays"));
        }
        for (int i = 0; i < source.length(); i++) {
            Check.that("signs 1 to 127 alone", source.charAt(i) > 0 && source.charAt(i) < 128);
        }
    }

    /** Rule 4: what is called of the library, by name. */
    private static void library() throws Exception {
        Set<String> listed = Set.of("Math.min", "Math.max", "Integer.bitCount", "Arrays.fill", "System.arraycopy");
        Matcher call = Pattern.compile("\\b([A-Z]\\w*\\.\\w+)\\(").matcher(code());
        while (call.find()) {
            Check.that("in the library's list: " + call.group(1), listed.contains(call.group(1)));
        }
    }

    /** Rule 11: how many classes, fields of each beside its constants, lines of each method. */
    private static void sizes() throws Exception {
        Class<?>[] inside = LampCave.class.getDeclaredClasses();
        Check.that("at most twelve classes", inside.length + 1 <= 12);
        Check.that("fields of LampCave", fieldsOf(LampCave.class) <= 20);
        for (Class<?> each : inside) {
            Check.that("fields of " + each.getName(), fieldsOf(each) <= 20);
        }
        // A method ends at the first line that closes as deep as it began.
        Matcher method = Pattern.compile("(?ms)^( {4}| {8})(?!\\s)[^\\n;=]*\\) \\{\\n.*?^\\1\\}$").matcher(code());
        int methods = 0;
        while (method.find()) {
            methods++;
            int lines = method.group().split("\n").length;
            Check.that("at most sixty lines: " + method.group().split("\n")[0].trim(), lines <= 60);
        }
        Check.that("methods were found", methods >= 49);
    }

    private static int fieldsOf(Class<?> type) {
        int many = 0;
        for (Field field : type.getDeclaredFields()) {
            many += Modifier.isStatic(field.getModifiers()) ? 0 : 1;
        }
        return many;
    }

    /** All that a call needs is made with the object; but for the places of kept CAVES, which keep() makes when due. */
    private static void objectsMade() throws Exception {
        // A field says private or final; what a method makes for itself says neither.
        for (String line : code().split("\n")) {
            boolean isField = line.matches("\\s*(private |final |private final )[\\w\\[\\]]+ \\w+ = new .*;");
            if (line.matches(".*\\bnew\\b.*") && !isField) {
                Check.that("made by keep() alone: " + line.trim(), line.trim().equals("place = new Cave();"));
            }
        }
    }
}
