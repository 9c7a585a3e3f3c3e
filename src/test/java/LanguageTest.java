import java.io.IOException;
import java.lang.reflect.Field;
import java.lang.reflect.Method;
import java.lang.reflect.Modifier;
import java.nio.file.Files;
import java.nio.file.Path;
import java.util.ArrayList;
import java.util.Arrays;
import java.util.List;
import java.util.TreeSet;
import java.util.regex.Matcher;
import java.util.regex.Pattern;

/** What can be counted of ../shared/LANGUAGE.md: the class keeps to the part of Java that it leaves. */
public final class LanguageTest {
    private static final int MOST_LINES = 60;
    private static final int MOST_PARAMETERS = 7;
    private static final int MOST_CLASSES = 12;
    private static final int MOST_FIELDS = 20;
    private static final String LIBRARY = "Arrays.copyOf Arrays.copyOfRange Arrays.fill Integer.bitCount Integer.compare"
            + " Integer.lowestOneBit Integer.numberOfTrailingZeros Math.abs Math.floorDiv Math.floorMod Math.max Math.min"
            + " System.arraycopy";
    private static final String EXCEPTIONS = "ArithmeticException IllegalArgumentException IllegalStateException"
            + " IndexOutOfBoundsException NoSuchElementException RuntimeException UnsupportedOperationException";
    private static final String NOT_THERE = "\\b(package|try|catch|finally|synchronized|assert|native|volatile|transient|var|yield"
            + "|equals|hashCode|toString|getClass|getMessage|Object|Thread|File|Random|currentTimeMillis|nanoTime)\\b|->|::|@";

    private static final String METHOD = "(    |        )(?:(?:public|private|static) )*(?!new |return |else |throw )"
            + "[\\w\\[\\]]+ \\w+\\(.*";

    private static List<Class<?>> all() {
        List<Class<?>> all = new ArrayList<>(Arrays.asList(RuleForge.class.getDeclaredClasses()));
        all.add(RuleForge.class);
        return all;
    }

    private static TreeSet<String> found(String text, String pattern) {
        TreeSet<String> all = new TreeSet<>();
        Matcher matcher = Pattern.compile(pattern).matcher(text);
        while (matcher.find()) {
            all.add(matcher.group());
        }
        return all;
    }

    private static void only(String what, TreeSet<String> found, String allowed) {
        found.removeAll(Arrays.asList(allowed.split(" ")));
        Bench.due(what, found.toString(), "[]");
    }

    /** Without comments and the texts of exceptions. */
    private static String code(String source) {
        return source.replaceAll("(?s)/\\*.*?\\*/", "").replaceAll("//.*", "").replaceAll("\"[^\"\n]*\"", "\"\"");
    }

    private static void words(String source) {
        String code = code(source);
        only("signs beyond 1 to 127, or tabs", found(source, "[^ -~\n]"), "");
        only("words that are not there", found(code, NOT_THERE), "");
        only("imports", found(code, "(?<=import )[^;]*"), "java.util.Arrays");
        only("calls of the library", found(code, "\\b(Arrays|System|Integer|Long|Math|String|List)\\.\\w+"), LIBRARY);
        only("what is thrown", found(code, "(?<=throw new )\\w+|(?<=throw )(?!new)\\w+"), EXCEPTIONS);
        only("texts that are joined", found(code, "\"\" \\+|\\+ \"\""), "");
        Bench.due("what is made behind the constructors", found(calls(code), "(?<!throw )new \\w+").toString(), "[]");
    }

    /** The code without the constructors and the fields, which alone make what is kept. */
    private static String calls(String code) {
        String rest = code.replaceAll("(?m)^ +(private )?(static )?final [\\w\\[\\]]+ \\w+ = new .*;$", "");
        for (Class<?> c : all()) {
            rest = rest.replaceAll("(?ms)^(    |        )(public )?" + c.getSimpleName() + "\\([^)]*\\) \\{\n.*?^\\1\\}$", "");
        }
        return rest;
    }

    private static void methods(List<String> lines) {
        int count = 0;
        for (int i = 0; i < lines.size(); i++) {
            String line = lines.get(i);
            if (line.matches(METHOD) && !line.endsWith(";")) {
                String indent = line.substring(0, line.length() - line.stripLeading().length());
                int end = lines.subList(i, lines.size()).indexOf(indent + "}") + 1;
                Bench.due("a short method: " + line.trim(), end > 0 && end <= MOST_LINES, true);
                count++;
            }
        }
        int known = 0;
        for (Class<?> c : all()) {
            known += c.getDeclaredMethods().length;
        }
        Bench.due("each method was seen", count >= known, true);
    }

    private static void classes() {
        TreeSet<String> face = new TreeSet<>();
        for (Method m : RuleForge.class.getDeclaredMethods()) {
            if (Modifier.isPublic(m.getModifiers())) {
                face.add(m.getName());
            }
        }
        Bench.due("no more classes than some twelve", all().size() <= MOST_CLASSES, true);
        for (Class<?> c : all()) {
            String name = c.getSimpleName();
            Bench.due(name + " is static", c == RuleForge.class || Modifier.isStatic(c.getModifiers()), true);
            int fields = 0;
            for (Field f : c.getDeclaredFields()) {
                boolean isStatic = Modifier.isStatic(f.getModifiers());
                boolean isConstant = Modifier.isFinal(f.getModifiers()) && f.getType() == int.class;
                Bench.due(name + "." + f.getName() + " is a constant, or no static one", !isStatic || isConstant, true);
                fields += isStatic ? 0 : 1;
            }
            Bench.due(name + " has no more fields than some twenty", fields <= MOST_FIELDS, true);
            for (Method m : c.getDeclaredMethods()) {
                Bench.due(name + "." + m.getName() + " has few parameters", m.getParameterCount() <= MOST_PARAMETERS, true);
                boolean isOwn = c == RuleForge.class && Modifier.isPublic(m.getModifiers()) || !face.contains(m.getName());
                Bench.due(name + "." + m.getName() + " has a name of its own", isOwn, true);
            }
        }
    }

    public static void main(String[] args) throws IOException {
        String source = Files.readString(Path.of("src/main/java/RuleForge.java"));
        words(source);
        methods(Arrays.asList(source.split("\n")));
        classes();
        Bench.end();
    }
}
