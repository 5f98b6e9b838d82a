import java.io.IOException;
import java.lang.reflect.InvocationTargetException;
import java.lang.reflect.Method;
import java.nio.file.Files;
import java.nio.file.Path;
import java.util.List;
import java.util.regex.Matcher;
import java.util.regex.Pattern;

/** The answers that README.md tells behind its calls, and its text of rules. */
public final class ReadmeTest {
    private static final Pattern CALL = Pattern.compile("x\\.(\\w+)\\((.*?)\\); *// ([-\\w]+)(:.*)?");
    private static final VoiceShaper X = new VoiceShaper();

    private ReadmeTest() {
    }

    public static void main(String[] args) throws IOException {
        List<String> lines = Files.readAllLines(Path.of("README.md"));
        int calls = 0;
        for (String line : lines) {
            Matcher call = CALL.matcher(line);
            if (line.startsWith("x.")) {
                Check.yes("a call with its answer: " + line, call.matches());
                Check.same(line, answer(call.group(1), call.group(2)), call.group(3));
                isToldText(line, call);
                calls++;
            }
        }
        Check.yes("README.md has calls", calls > 20);
        StringBuilder text = new StringBuilder();
        lines.stream().filter(line -> line.matches("(set|add) .*;")).forEach(line -> text.append(line).append('\n'));
        Check.due("the text of rules", Check.rules(X, text.toString()), 0);
        Check.due("its lines", X.count(5), 3);
        Check.end();
    }

    private static void isToldText(String line, Matcher call) {
        if (call.group(1).equals("feed")) {
            String[] longs = call.group(2).split(", ");
            String told = line.replaceFirst(".*\"(.*)\".*", "$1");
            for (int i = 0; i < longs.length; i++) {
                Check.due(line, number(longs[i]), Check.pack(told, 8 * i));
            }
        }
    }

    private static String answer(String name, String arguments) {
        String[] told = arguments.isEmpty() ? new String[0] : arguments.split(", ");
        for (Method method : VoiceShaper.class.getMethods()) {
            if (method.getName().equals(name) && method.getParameterCount() == told.length) {
                return call(method, told);
            }
        }
        return "no such call";
    }

    private static String call(Method method, String[] told) {
        Object[] values = new Object[told.length];
        for (int i = 0; i < told.length; i++) {
            Class<?> type = method.getParameterTypes()[i];
            if (type == boolean.class) {
                values[i] = told[i].equals("true");
            } else if (type == long.class) {
                values[i] = number(told[i]);
            } else {
                values[i] = (int) number(told[i]);
            }
        }
        try {
            return method.invoke(X, values).toString();
        } catch (InvocationTargetException e) {
            return e.getCause().getClass().getSimpleName();
        } catch (IllegalAccessException e) {
            throw new IllegalStateException(e);
        }
    }

    private static long number(String told) {
        return Long.decode(told.replace("L", ""));
    }
}
