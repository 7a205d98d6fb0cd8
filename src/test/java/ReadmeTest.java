import java.io.IOException;
import java.lang.reflect.Method;
import java.nio.file.Files;
import java.nio.file.Path;
import java.util.Set;
import java.util.TreeSet;
import java.util.regex.Matcher;
import java.util.regex.Pattern;

/**
 * The answers that README.md shows. Every line of Java there makes a new object or is one call, with its answer
 * as the number behind it, so that none is shown that isn't tried; and every call of the document is shown.
 */
public final class ReadmeTest {
    private static final Pattern BLOCK = Pattern.compile("(?s)\n```java\n(.*?)\n```");
    private static final Pattern CALL = Pattern.compile("x\\.(\\w+)\\((.*?)\\); +// (-?\\d+)(?:: (.*))?");
    private static final String MADE = "BlownByAll x = new BlownByAll();";
    private static int wrong = 0;

    private static void wrong(String what) {
        wrong++;
        System.out.println(what);
    }

    private static Method methodOf(String name) {
        for (Method m : BlownByAll.class.getDeclaredMethods()) {
            if (m.getName().equals(name)) {
                return m;
            }
        }
        return null;
    }

    private static Object argument(String word, Class<?> type) {
        if (type == boolean.class) {
            return Boolean.parseBoolean(word);
        }
        long number = Long.decode(word.replaceAll("L$", ""));
        if (type == long.class) {
            return number;
        }
        return Math.toIntExact(number);
    }

    private static long answer(BlownByAll x, Method m, String words) throws ReflectiveOperationException {
        String[] each = words.isEmpty() ? new String[0] : words.split(", ");
        Object[] all = new Object[each.length];
        for (int i = 0; i < each.length; i++) {
            all[i] = argument(each[i], m.getParameterTypes()[i]);
        }
        return ((Number) m.invoke(x, all)).longValue();
    }

    /** What is said of a text that is written is the text. */
    private static void written(String line, String words, String said) {
        StringBuilder text = new StringBuilder("\"");
        String figures = words.replaceAll(".*0x|L", "");
        for (int i = 0; i + 1 < figures.length(); i += 2) {
            text.append((char) Integer.parseInt(figures.substring(i, i + 2), 16));
        }
        if (!said.startsWith(text.append('"').toString())) {
            wrong(line + "\n    writes " + text);
        }
    }

    private static void tryOut(BlownByAll x, String line, Set<String> shown) throws ReflectiveOperationException {
        Matcher call = CALL.matcher(line);
        Method m = call.matches() ? methodOf(call.group(1)) : null;
        if (x == null || m == null) {
            wrong("this is no call with its answer: " + line);
            return;
        }
        shown.add(m.getName());
        long got = answer(x, m, call.group(2));
        if (got != Long.parseLong(call.group(3))) {
            wrong(line + "\n    answered " + got);
        }
        if (call.group(2).contains("0x")) {
            written(line, call.group(2), call.group(4));
        }
    }

    public static void main(String[] args) throws IOException, ReflectiveOperationException {
        Set<String> shown = new TreeSet<>();
        BlownByAll x = null;
        Matcher blocks = BLOCK.matcher(Files.readString(Path.of("README.md")));
        while (blocks.find()) {
            for (String line : blocks.group(1).split("\n")) {
                if (line.equals(MADE)) {
                    x = new BlownByAll();
                } else {
                    tryOut(x, line, shown);
                }
            }
        }
        for (Method m : BlownByAll.class.getDeclaredMethods()) {
            if (!shown.contains(m.getName())) {
                wrong("README.md does not show " + m.getName());
            }
        }
        System.out.println(wrong == 0 ? "README.md shows what is so" : wrong + " things in README.md are not so");
        if (wrong != 0) {
            System.exit(1);
        }
    }
}
