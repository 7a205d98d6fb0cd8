import java.io.IOException;
import java.lang.reflect.Constructor;
import java.lang.reflect.Field;
import java.lang.reflect.Method;
import java.lang.reflect.Modifier;
import java.nio.file.Files;
import java.nio.file.Path;
import java.util.Set;
import java.util.TreeSet;
import java.util.regex.Matcher;
import java.util.regex.Pattern;

/** The public face of the document, and those rules of LANGUAGE.md that can be looked up in class and source. */
public final class FaceTest {
    private static final String[] METHODS = {
        "int write(int, long)", "int wipe()", "int fault()", "int organ()", "int drinks(int)", "int sounds(int, int)",
        "int person(int, int)", "int seat(int, int)", "int phase(int, int)", "int bribe(int, boolean)", "int grow(int)",
        "int store(int)", "int late(int)", "int gives(int, int)", "int air(int, int)", "int stored(int, int)",
        "int sags(int, int)", "int total()", "int first()", "int worst()", "int bestLate()", "int phases(int)",
        "int phaseAt(int, int)", "int seats()", "int seatAt(int)", "int bribes()", "int needed(int)", "int never()",
        "long steady(int, int, int, boolean)", "long blame(int, int, int, boolean)", "int keep(int)", "int again(int)",
        "int count(int)"};
    private static final String GROUPS = "---- the organ write wipe fault organ drinks sounds person"
            + " ---- told seat phase bribe grow store late ---- a mass gives air stored sags total first worst"
            + " ---- plans bestLate phases phaseAt seats seatAt bribes needed never ---- sneezes steady blame"
            + " ---- slots keep again count";
    private static final Set<String> LISTED = Set.of("Integer.bitCount(", "Math.max(", "Math.min(", "Math.floorMod(");
    private static int wrong = 0;

    private static void check(boolean holds, String what) {
        if (!holds) {
            wrong++;
            System.out.println("not so: " + what);
        }
    }

    private static String signature(Method m) {
        StringBuilder s = new StringBuilder(m.getReturnType().getName()).append(' ').append(m.getName()).append('(');
        for (Class<?> type : m.getParameterTypes()) {
            s.append(s.charAt(s.length() - 1) == '(' ? "" : ", ").append(type.getName());
        }
        return s.append(')').toString();
    }

    private static void members() {
        Set<String> open = new TreeSet<>();
        Set<String> names = new TreeSet<>();
        for (Method m : BlownByAll.class.getDeclaredMethods()) {
            if (!Modifier.isPrivate(m.getModifiers())) {
                open.add(signature(m));
                names.add(m.getName());
                check(Modifier.isPublic(m.getModifiers()) && !Modifier.isStatic(m.getModifiers()), "public: " + m);
            }
        }
        check(open.equals(new TreeSet<>(Set.of(METHODS))), "the methods of the document: " + open);
        for (Method m : BlownByAll.class.getDeclaredMethods()) {
            check(!Modifier.isPrivate(m.getModifiers()) || !names.contains(m.getName()), "a name of its own: " + m);
            check(m.getParameterCount() <= 7, "seven parameters: " + m);
        }
        check(BlownByAll.class.getDeclaredClasses().length < 12, "some twelve classes");
        Constructor<?>[] made = BlownByAll.class.getDeclaredConstructors();
        check(made.length == 1 && made[0].getParameterCount() == 0 && Modifier.isPublic(made[0].getModifiers()), "one constructor");
        check(Modifier.isFinal(BlownByAll.class.getModifiers()), "a final class");
        Set<String> constants = new TreeSet<>();
        for (Field f : BlownByAll.class.getDeclaredFields()) {
            if (!Modifier.isPrivate(f.getModifiers())) {
                constants.add(f.getName());
            }
        }
        check(constants.equals(Set.of("UNKNOWN", "OUTSIDE", "STATE", "FULL", "NONE")), "the constants: " + constants);
        for (Class<?> inside : BlownByAll.class.getDeclaredClasses()) {
            check(Modifier.isStatic(inside.getModifiers()), "static: " + inside);
            check(inside.getDeclaredClasses().length == 0, "no class inside " + inside);
            for (Method m : inside.getDeclaredMethods()) {
                check(!names.contains(m.getName()), "a name of its own: " + m);
                check(m.getParameterCount() <= 7, "seven parameters: " + m);
            }
            fieldsOf(inside);
        }
        fieldsOf(BlownByAll.class);
    }

    private static void fieldsOf(Class<?> one) {
        int held = 0;
        for (Field f : one.getDeclaredFields()) {
            if (Modifier.isStatic(f.getModifiers())) {
                check(Modifier.isFinal(f.getModifiers()), "final: " + f);
            } else {
                held++;
                check(f.getType().isPrimitive() || Modifier.isFinal(f.getModifiers()), "made once: " + f);
            }
        }
        check(held <= 20, "some twenty fields: " + one + " has " + held);
    }

    /** The calls stand as the document has them, each group behind the words that the interface says ahead of it. */
    private static void order(String source) {
        Matcher said = Pattern.compile("\n    // (---- .*)|\n    public (?:int|long) (\\w+)\\(").matcher(source);
        StringBuilder all = new StringBuilder();
        while (said.find()) {
            all.append(said.group(1) == null ? said.group(2) : said.group(1)).append(' ');
        }
        check(all.toString().trim().equals(GROUPS), "the groups of the document: " + all);
    }

    /** Of the library just what LANGUAGE.md lists: functions, and no constants. */
    private static void library(String bare) {
        Matcher used = Pattern.compile("\\b(Integer|Long|Math|Arrays|String|List|ArrayList)\\b(\\.\\w+\\(?)?").matcher(bare);
        while (used.find()) {
            check(LISTED.contains(used.group()), "listed: " + used.group());
        }
    }

    /** From a method's first line to its brace, which stands as far in as the line itself. */
    private static void lengths(String source) {
        Matcher method = Pattern.compile("(?s)\n( {4}| {8})(?! )[^\n;=]*\\) \\{\n(.*?)\n\\1\\}").matcher(source);
        int seen = 0;
        while (method.find()) {
            seen++;
            check(method.group(2).lines().count() <= 60, "short: " + method.group().lines().skip(1).findFirst());
        }
        check(seen > METHODS.length, "methods were found: " + seen);
    }

    private static void source() throws IOException {
        String source = Files.readString(Path.of("src/main/java/BlownByAll.java"));
        String bare = source.replaceAll("(?s)/\\*.*?\\*/", "").replaceAll("//[^\n]*", "");
        order(source);
        library(bare);
        lengths(source);
        String[] banned = {"throw", "throws", "try", "catch", "finally", "synchronized", "assert", "import", "package",
            "protected", "native", "volatile", "System", "Exact", "Random", "Thread"};
        for (String word : banned) {
            check(!Pattern.compile("\\b" + word + "\\b").matcher(bare).find(), "no " + word);
        }
        check(!bare.contains("->") && !bare.contains("::") && !bare.contains("@"), "no lambda, reference, annotation");
        // Rows are made with the object, so that a run's room does not grow by its calls: no call has a new of
        // its own, for each is given to a field, and fields that hold objects are final.
        long given = Pattern.compile("\n\\s+\\w+(\\[i\\])? = new ").matcher(bare).results().count();
        check(given == Pattern.compile("\\bnew\\b").matcher(bare).results().count(), "each new is given to a field");
    }

    public static void main(String[] args) throws IOException {
        members();
        source();
        System.out.println(wrong == 0 ? "the face is as due" : wrong + " things are not as due");
        if (wrong != 0) {
            System.exit(1);
        }
    }
}
