import java.io.IOException;
import java.lang.reflect.InvocationTargetException;
import java.lang.reflect.Method;
import java.nio.file.Files;
import java.nio.file.Path;
import java.util.ArrayList;
import java.util.HashSet;
import java.util.List;
import java.util.Set;
import java.util.regex.Matcher;
import java.util.regex.Pattern;

/** What README.md tells of the class: its example is run, its table of calls is held against the document. */
public final class ReadmeTest {
    private static final Pattern CALL = Pattern.compile("x\\.(\\w+)\\(([^)]*)\\); *// (-?\\d+)\\b.*");
    private static final Pattern TELL = Pattern.compile("tell\\(x, \"([^\"]*)\"\\);");
    private static final Pattern ROW = Pattern.compile("(?m)^\\| `(\\w+\\([^)]*\\))` \\|.*\\|(.*)\\|$");
    private static final Pattern PROMISE = Pattern.compile("(?m)^`(?:int|long) (\\w+)\\(([^)]*)\\)`: (.*)$");
    private static final Pattern REFUSAL = Pattern.compile("\\b(BAD|STATE|FULL|NO)\\b");

    private static int asked = 0;
    private static int wrong = 0;

    private ReadmeTest() { }

    private static void hold(boolean good, String otherwise) {
        asked++;
        if (!good) {
            wrong++;
            System.out.println(otherwise);
        }
    }

    // ---- the example

    private static void example(String page) throws ReflectiveOperationException {
        Matcher block = Pattern.compile("(?s)```java\n(.*?)```").matcher(page);
        hold(block.find(), "README.md has no example");
        Set<String> used = new HashSet<>();
        PavedBan x = null;
        for (String line : block.group(1).split("\n")) {
            Matcher call = CALL.matcher(line);
            Matcher tell = TELL.matcher(line);
            if (line.equals("PavedBan x = new PavedBan();")) {
                x = new PavedBan();
            } else if (tell.matches()) {
                tell(x, tell.group(1));
            } else if (call.matches()) {
                used.add(call.group(1));
                long got = ask(x, call.group(1), call.group(2));
                hold(got == Long.parseLong(call.group(3)), "'" + line + "' answered " + got);
            } else {
                hold(false, "'" + line + "' can't be run");
            }
        }
        hold(used.size() > 20, "the example has " + used.size() + " calls alone");
    }

    private static void tell(PavedBan x, String text) {
        for (int from = 0; from < text.length(); from += 8) {
            int n = Math.min(8, text.length() - from);
            long v = 0;
            for (int i = from; i < from + n; i++) {
                v = v << 8 | text.charAt(i);
            }
            x.type(v, n);
        }
    }

    /** The page shows tell() just as it is run here. */
    private static void helper(String page, String source) {
        Matcher shown = Pattern.compile("(?ms)^    static void tell.*?^    }$").matcher(page);
        hold(shown.find() && source.contains("    private" + shown.group().substring(3)), "tell() is another in README.md");
    }

    private static long ask(PavedBan x, String name, String told)
        throws IllegalAccessException, InvocationTargetException {
        Object[] arguments = told.isEmpty() ? new Object[0]
            : Pattern.compile(", ").splitAsStream(told).map(Integer::valueOf).toArray();
        for (Method m : PavedBan.class.getMethods()) {
            if (m.getName().equals(name) && m.getParameterCount() == arguments.length) {
                return ((Number) m.invoke(x, arguments)).longValue();
            }
        }
        hold(false, "there is no call " + name + " of " + arguments.length);
        return 0;
    }

    // ---- the table

    private static Set<String> refusals(String words) {
        Set<String> set = new HashSet<>();
        Matcher m = REFUSAL.matcher(words);
        while (m.find()) {
            set.add(m.group(1));
        }
        return set;
    }

    /** The calls in the document's order, each with what it is refused with. */
    private static void table(String page, String doc) {
        List<String> want = new ArrayList<>();
        Matcher m = PROMISE.matcher(doc);
        while (m.find()) {
            String names = m.group(2).replaceAll("(int|long) ", "");
            want.add(m.group(1) + "(" + names + ") " + refusals(m.group(3)));
        }
        List<String> got = new ArrayList<>();
        m = ROW.matcher(page);
        while (m.find()) {
            got.add(m.group(1) + " " + refusals(m.group(2)));
        }
        hold(want.size() == 29, "the document has " + want.size() + " calls");
        hold(got.equals(want), "the table of calls is " + got + ", due is " + want);
    }

    // ---- the constants, the tests

    private static void constants(String page) {
        hold(page.contains("`BAD` (" + PavedBan.BAD + ":"), "BAD is another");
        hold(page.contains("`STATE` (" + PavedBan.STATE + ")"), "STATE is another");
        hold(page.contains("`FULL` (" + PavedBan.FULL + ")"), "FULL is another");
        hold(page.contains("`NONE` (" + PavedBan.NONE + ")"), "NONE is another");
        hold(page.contains("`NO` (" + PavedBan.NO + ")"), "NO is another");
    }

    private static void tests(String page) throws IOException {
        try (var files = Files.list(Path.of("src/test/java"))) {
            files.map(file -> file.getFileName().toString().replace(".java", ""))
                .forEach(name -> hold(page.contains("`" + name + "`"), "README.md does not tell of " + name));
        }
    }

    public static void main(String[] args) throws IOException, ReflectiveOperationException {
        String page = Files.readString(Path.of("README.md"));
        example(page);
        helper(page, Files.readString(Path.of("src/test/java/ReadmeTest.java")));
        table(page, Files.readString(Path.of("../shared/DOC.md")));
        constants(page);
        tests(page);
        System.out.println(wrong == 0 ? "README.md tells " + asked + " things as they are" : wrong + " faults of README.md");
        if (wrong != 0) {
            System.exit(1);
        }
    }
}
