import java.io.IOException;
import java.lang.management.ManagementFactory;
import java.lang.reflect.Field;
import java.lang.reflect.Method;
import java.lang.reflect.Modifier;
import java.nio.file.Files;
import java.nio.file.Path;
import java.util.ArrayList;
import java.util.List;
import java.util.Set;
import java.util.regex.Matcher;
import java.util.regex.Pattern;

/** What a program can see of the rules of ../shared/LANGUAGE.md, told by their numbers, and the room of a run. */
public final class LanguageTest {
    private static final Path PLACE = Path.of("src/main/java/VoiceShaper.java");
    private static final Set<String> LIBRARY = Set.of("String", "StringBuilder", "Integer", "Long", "Math", "System",
            "Arrays", "ArrayList", "List", "Iterator", "Iterable", "Comparable", "IllegalStateException",
            "IllegalArgumentException", "IndexOutOfBoundsException", "ArithmeticException",
            "UnsupportedOperationException", "NoSuchElementException", "RuntimeException");
    private static final Set<Class<?>> STATIC_TYPES = Set.of(int.class, long.class, boolean.class, char.class,
            String.class, int[].class, long[].class, char[].class, byte[].class);
    private static final List<Class<?>> CLASSES = new ArrayList<>(List.of(VoiceShaper.class));
    private static final long MOST_BYTES_OF_RULES = 1_000_000;

    private LanguageTest() {
    }

    public static void main(String[] args) throws IOException {
        CLASSES.addAll(List.of(VoiceShaper.class.getDeclaredClasses()));
        String source = Files.readString(PLACE);
        // What stands in comments and texts binds nobody; the lines stay as they are, for their numbers.
        String code = source.replaceAll("(?s)/\\*.*?\\*/", "").replaceAll("//.*", "").replaceAll("\"[^\"\n]*\"", "\"\"");
        Check.yes("signs from 1 to 127", source.chars().allMatch(sign -> sign == '\n' || sign >= 32 && sign < 127));
        imports(code);
        names(code);
        exceptions(code);
        methods(code);
        for (Class<?> each : CLASSES) {
            members(each);
        }
        Check.yes("rule 11: some twelve classes", CLASSES.size() <= 12);
        room();
        Check.end();
    }

    private static void imports(String code) {
        Check.no("no package line", has(code, "(?m)^package "));
        List<String> all = all(code, "import ([\\w.*]+(?: [\\w.]+)?);");
        Check.yes("rule 4: the library " + all, Set.of("java.util.Arrays", "java.util.ArrayList", "java.util.List",
                "java.util.Iterator", "java.util.NoSuchElementException").containsAll(all));
        for (String name : all(code, "\\bArrays\\.(\\w+)")) {
            Check.yes("rule 4: Arrays." + name, Set.of("copyOf", "copyOfRange", "fill").contains(name));
        }
        for (String name : all(code, "\\bSystem\\.(\\w+)")) {
            Check.same("rule 4: System", name, "arraycopy");
        }
        Check.no("rule 4: none that ends in Exact", has(code, "Exact\\("));
    }

    private static void names(String code) {
        Set<String> own = new java.util.HashSet<>();
        CLASSES.forEach(each -> own.add(each.getSimpleName()));
        for (String name : all(code, "\\b([A-Z]\\w*[a-z]\\w*)\\b")) {
            Check.yes("rules 3, 4: " + name, own.contains(name) || LIBRARY.contains(name));
        }
        for (String word : List.of("finally", "synchronized", "assert", "var", "volatile", "native", "transient",
                "getClass", "hashCode", "toString", "protected")) {
            Check.no("none of these stands there: " + word, has(code, "\\b" + word + "\\b"));
        }
        Check.no("rule 2: a lambda, a method reference", has(code, "->|::"));
        Check.no("rule 5: a static block", has(code, "static\\s*\\{"));
        Check.no("rule 10: texts joined by +", has(code, "\"\"\\s*\\+|\\+\\s*\"\""));
    }

    /** What the machine throws is caught nowhere, by a class above it neither. */
    private static void exceptions(String code) {
        for (String caught : all(code, "catch\\s*\\(([^)]*) \\w+\\)")) {
            Check.yes("rule 6: caught " + caught, Set.of("IllegalStateException", "IllegalArgumentException",
                    "UnsupportedOperationException", "NoSuchElementException").containsAll(List.of(caught.split(" \\| "))));
        }
        Check.due("rule 6: each throw makes its exception, with a written text or none",
                all(code, "(\\bthrow\\b)").size(), all(code, "(\\bthrow new \\w+\\((?:\"\")?\\);)").size());
        for (String type : all(code, "\\bthrow new (\\w+)")) {
            Check.same("rule 6: the document names this one alone", type, "NoSuchElementException");
        }
    }

    /** A method begins with a line that has brackets and ends with {, and goes on to a } as far in as it. */
    private static void methods(String code) {
        String[] lines = code.split("\n", -1);
        int seen = 0;
        for (int at = 0; at < lines.length; at++) {
            Matcher start = Pattern.compile("(    |        )\\w[^=;]*\\([^=;]*\\{").matcher(lines[at]);
            if (start.matches()) {
                int end = at;
                while (!lines[end].equals(start.group(1) + "}")) {
                    end++;
                }
                Check.yes("rule 11: some sixty lines: " + lines[at].trim(), end - at < 60);
                seen++;
            }
        }
        Check.yes("methods are seen", seen > 60);
    }

    private static void members(Class<?> of) {
        int own = 0;
        for (Field field : of.getDeclaredFields()) {
            boolean isStatic = Modifier.isStatic(field.getModifiers());
            own += isStatic ? 0 : 1;
            Check.yes("rule 5: " + field, !isStatic
                    || Modifier.isFinal(field.getModifiers()) && STATIC_TYPES.contains(field.getType()));
            Check.yes("rule 3: " + field, isOfRuleThree(field.getType()));
        }
        Check.yes("rule 11: some twenty fields: " + of, own <= 20);
        for (Method method : of.getDeclaredMethods()) {
            Check.yes("rule 11: seven parameters: " + method, method.getParameterCount() <= 7);
        }
    }

    private static boolean isOfRuleThree(Class<?> type) {
        if (type.isArray()) {
            Class<?> element = type.getComponentType();
            return element.isArray() ? element.getComponentType().isPrimitive() : isOfRuleThree(element);
        }
        return type.isPrimitive() || CLASSES.contains(type) || type == String.class || type == StringBuilder.class
                || type == List.class || type == ArrayList.class;
    }

    /** A run of calls has one room: only rules may make something, and of that little. */
    private static void room() {
        if (!(ManagementFactory.getThreadMXBean() instanceof com.sun.management.ThreadMXBean)) {
            System.out.println("the room is not measured: this machine does not count it");
            return;
        }
        bytesOfAsking(new VoiceShaper(), 1);
        bytesOfRules(new VoiceShaper(), 1);
        Check.due("no call but rules makes anything", bytesOfAsking(new VoiceShaper(), 30), 0);
        Check.yes("what 256 calls of rules make", bytesOfRules(new VoiceShaper(), 256) < MOST_BYTES_OF_RULES);
    }

    private static long bytesMade() {
        return ((com.sun.management.ThreadMXBean) ManagementFactory.getThreadMXBean())
                .getThreadAllocatedBytes(Thread.currentThread().getId());
    }

    private static long bytesOfAsking(VoiceShaper x, int times) {
        bytesMade();
        long before = bytesMade();
        long none = bytesMade() - before;
        before = bytesMade();
        for (int i = 0; i < times; i++) {
            x.word(5, i % 5, i, i % 2 == 0, i % 3 == 0);
            x.change(0, 5, 1, i, true, false);
            x.feed(i, 0x6161616161616161L, -1);
            x.hand(i, 1, i);
            x.tune(i % 4);
            x.ideal(i % 21);
            x.manner(i % 4, 0, 99, 1 + i);
            x.speed(1 + i, 100 - i);
            x.reading();
            x.take(i % 3);
            x.shape(0, i % 6);
            x.apart(i % 3, 0);
            x.pause(0, i);
            x.phrase(0, i % 5);
            x.count(x.phrases() + x.fit());
        }
        return bytesMade() - before - none;
    }

    private static long bytesOfRules(VoiceShaper x, int times) {
        long before = bytesMade();
        for (int i = 0; i < times; i++) {
            x.feed(0x73657420706F7765L, 0x722037207768656EL, 0x20616363656E743BL);
            x.rules();
        }
        return bytesMade() - before;
    }

    private static boolean has(String code, String pattern) {
        return Pattern.compile(pattern).matcher(code).find();
    }

    private static List<String> all(String code, String pattern) {
        List<String> found = new ArrayList<>();
        Matcher m = Pattern.compile(pattern).matcher(code);
        while (m.find()) {
            found.add(m.group(1));
        }
        return found;
    }
}
