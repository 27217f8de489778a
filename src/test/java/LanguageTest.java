import java.io.IOException;
import java.io.PrintWriter;
import java.io.StringWriter;
import java.lang.reflect.Executable;
import java.lang.reflect.Field;
import java.lang.reflect.Modifier;
import java.nio.file.Files;
import java.nio.file.Path;
import java.util.ArrayList;
import java.util.List;
import java.util.Set;
import java.util.TreeSet;
import java.util.regex.Matcher;
import java.util.regex.Pattern;
import java.util.spi.ToolProvider;

/** The rules of LANGUAGE.md that show in the words of the source or in the compiled class, or can be counted. */
public final class LanguageTest {
    private static final Path SOURCE = Path.of("src/main/java/HumpYard.java");
    private static final Set<String> IMPORTS = Set.of("java.util.ArrayList", "java.util.Arrays", "java.util.List");
    /** Methods as javap writes them, with what they take; on doubles there is none. */
    private static final Pattern LIBRARY = Pattern.compile("java/(lang/Object\\.\"<init>\":\\(\\)V"
            + "|lang/Math\\.(min|max|abs|floorMod|floorDiv):\\([IJ]+\\)[IJ]"
            + "|lang/System\\.arraycopy:.*|util/Arrays\\.(fill|copyOf|copyOfRange):\\(\\[[IJSBCZDF].*"
            + "|util/ArrayList\\.(\"<init>\"|add|get|set|size|isEmpty|clear):.*|util/ArrayList\\.remove:\\(I\\).*"
            + "|(lang|util)/\\w+Exception\\.\"<init>\":\\((Ljava/lang/String;)?\\)V)");
    private static final Set<String> EXCEPTIONS = Set.of("IllegalStateException", "IllegalArgumentException",
            "IndexOutOfBoundsException", "ArithmeticException", "UnsupportedOperationException",
            "NoSuchElementException", "RuntimeException");
    private static final Set<Class<?>> STATIC_TYPES = Set.of(int.class, long.class, boolean.class, char.class,
            String.class, int[].class, long[].class, char[].class, byte[].class);

    /** All that a pattern's first group matches in a text. */
    private static Set<String> found(String pattern, String text) {
        Set<String> all = new TreeSet<>();
        Matcher matcher = Pattern.compile(pattern).matcher(text);
        while (matcher.find()) {
            all.add(matcher.group(1));
        }
        return all;
    }

    private static void dueWithin(String rule, Set<String> found, Set<String> allowed) {
        Set<String> more = new TreeSet<>(found);
        more.removeAll(allowed);
        Checks.due(rule, more, Set.of());
    }

    /** The source without its comments, and with empty texts. */
    private static String bare(String source) {
        return source.replaceAll("(?s)/\\*.*?\\*/", " ").replaceAll("//[^\n]*", " ")
                .replaceAll("\"[^\"\n]*\"", "\"\"");
    }

    private static void words(String code) {
        dueWithin("rule 4, imports", found("import\\s+([^;]+);", code), IMPORTS);
        Set<String> none = Set.of();
        dueWithin("no package line", found("\\b(package)\\b", code), none);
        dueWithin("rule 2, no lambda or method reference", found("(->|::)", code), none);
        dueWithin("rule 5, no static initialiser", found("(static\\s*\\{)", code), none);
        dueWithin("rule 6", found("\\b(synchronized|assert|finally)\\b", code), none);
        dueWithin("no catch, so none of what the machine throws", found("\\b(try|catch)\\b", code), none);
        dueWithin("rule 6, what is thrown", found("\\bthrow\\s+(?!new\\s)(\\S+)", code), none);
        dueWithin("rule 6, exceptions", found("\\bthrow\\s+new\\s+(\\w+)", code), EXCEPTIONS);
        dueWithin("rule 6, written texts", found("\\bthrow\\s+new\\s+\\w+\\((?!\"\"\\);|\\);)([^;]*;)", code), none);
    }

    private static List<Class<?>> classes() {
        List<Class<?>> all = new ArrayList<>(List.of(HumpYard.class.getDeclaredClasses()));
        all.add(HumpYard.class);
        return all;
    }

    /** Whatever of the library the compiled class calls, be it written or made by the compiler. */
    private static void dueOfLibrary(Class<?> each) {
        StringWriter text = new StringWriter();
        int failed = ToolProvider.findFirst("javap").orElseThrow().run(new PrintWriter(text), new PrintWriter(text),
                "-c", "-p", "-cp", System.getProperty("java.class.path"), each.getName());
        Checks.due("javap of " + each, failed, 0);
        Set<String> called = found("(?m)// (?:Interface)?Method (java\\S+)$", text.toString());
        Checks.due("it calls a constructor at least", called.isEmpty(), false);
        called.removeIf(call -> LIBRARY.matcher(call).matches());
        Checks.due("rule 4, what " + each + " calls of the library", called, Set.of());
        Checks.due("no call made at run time", text.toString().contains("InvokeDynamic"), false);
    }

    private static void dueSmall(Class<?> each) {
        List<Executable> made = new ArrayList<>(List.of(each.getDeclaredMethods()));
        made.addAll(List.of(each.getDeclaredConstructors()));
        for (Executable one : made) {
            Checks.due("rule 11, at most 7 parameters: " + one, one.getParameterCount() <= 7, true);
        }
        int fields = 0;
        for (Field field : each.getDeclaredFields()) {
            boolean fixed = Modifier.isStatic(field.getModifiers());
            fields += fixed ? 0 : 1;
            boolean allowed = !fixed || Modifier.isFinal(field.getModifiers()) && STATIC_TYPES.contains(field.getType());
            Checks.due("rule 5, a static field is a constant: " + field, allowed, true);
        }
        Checks.due("rule 11, at most 20 fields: " + each, fields <= 20, true);
    }

    /** The longest run of lines between a method's first line and the brace that ends it. */
    private static int longestMethod(String code) {
        int longest = 0;
        Matcher matcher = Pattern.compile("(?m)^( {4}| {8})[\\w<>\\[\\]. ]+\\([^;{}]*\\)[^;{}]*\\{\n(?s:.*?)^\\1\\}")
                .matcher(code);
        int methods = 0;
        while (matcher.find()) {
            longest = Math.max(longest, (int) matcher.group().lines().count());
            methods++;
        }
        Checks.due("methods were found", methods > 30, true);
        return longest;
    }

    public static void main(String[] args) throws IOException {
        String source = Files.readString(SOURCE);
        Checks.due("rule 3, characters 0 to 255", source.chars().allMatch(c -> c < 256), true);
        String code = bare(source);
        words(code);
        Checks.due("rule 11, methods of at most 60 lines", longestMethod(code) <= 60, true);
        Checks.due("rule 11, at most 12 classes", classes().size() <= 12, true);
        for (Class<?> each : classes()) {
            dueOfLibrary(each);
            dueSmall(each);
        }
        Checks.end();
    }
}
