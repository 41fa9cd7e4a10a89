import java.io.IOException;
import java.lang.management.ManagementFactory;
import java.lang.reflect.Constructor;
import java.lang.reflect.Field;
import java.lang.reflect.Member;
import java.lang.reflect.Method;
import java.lang.reflect.Modifier;
import java.nio.file.Files;
import java.nio.file.Path;
import java.util.Arrays;
import java.util.Set;
import java.util.TreeSet;
import java.util.regex.Matcher;
import java.util.regex.Pattern;
import java.util.stream.Collectors;

/** The class's face, the rules of LANGUAGE.md that can be seen from outside, and that calls make no objects. */
public final class FormTest {
    private static final Set<String> FACE = Set.of("int type(long,int)", "int clear()", "int town()", "int piece(int,int)",
        "int family(int,int)", "int pave(int,int)", "int free(int)", "int stone(int,int)", "int flood(int,int)",
        "int way(int)", "int place(int,int)", "int pole(int,int)", "int judge(int)", "int one(int,int)", "int all(int)",
        "int change()", "int rest()", "int match(int,int)", "int always()", "long shut(int,int)", "int saw(int,int)",
        "int forget()", "int fits()", "int who(int)", "int mark(int,int)", "int keep(int)", "int back(int)",
        "int count(int)", "long trace()");
    private static final Set<String> CONSTANTS = Set.of("BAD=-1", "STATE=-2", "FULL=-3", "NONE=-9", "NO=-1000000");
    private static final Path MAIN = Path.of("src/main/java/PavedBan.java");
    private static final int LONGEST_METHOD = 60;
    /** What a static field may be (rule 5). */
    private static final Set<Class<?>> CONSTANT_TYPES = Set.of(int.class, long.class, boolean.class, char.class, String.class,
        int[].class, long[].class, char[].class, byte[].class);
    /** What may be asked of the library's classes (rule 4). */
    private static final Pattern LIBRARY = Pattern.compile("(Math|Integer|Long)\\.\\w+(?<!Exact)|System\\.arraycopy"
        + "|Arrays\\.(copyOf|copyOfRange|fill)|List\\.of");

    private static int wrong = 0;

    private static void hold(boolean good, String otherwise) {
        if (!good) {
            wrong++;
            System.out.println(otherwise);
        }
    }

    private static boolean shown(Member m) {
        return !Modifier.isPrivate(m.getModifiers()) && !m.isSynthetic();
    }

    private static void face() throws IllegalAccessException {
        hold(Modifier.isPublic(PavedBan.class.getModifiers()) && Modifier.isFinal(PavedBan.class.getModifiers()),
            "the class is not public and final");
        Set<String> methods = new TreeSet<>();
        for (Method m : PavedBan.class.getDeclaredMethods()) {
            if (shown(m)) {
                hold(m.getModifiers() == Modifier.PUBLIC, m + " is not just public");
                methods.add(m.getReturnType() + " " + m.getName() + Arrays.stream(m.getParameterTypes())
                    .map(Class::getName).collect(Collectors.joining(",", "(", ")")));
            }
        }
        hold(methods.equals(FACE), "the face is " + methods);
        Set<String> constants = new TreeSet<>();
        for (Field f : PavedBan.class.getDeclaredFields()) {
            if (shown(f)) {
                hold(f.getModifiers() == (Modifier.PUBLIC | Modifier.STATIC | Modifier.FINAL), f + " is no constant");
                constants.add(f.getName() + "=" + f.getInt(null));
            }
        }
        hold(constants.equals(CONSTANTS), "the constants are " + constants);
        Constructor<?>[] made = PavedBan.class.getDeclaredConstructors();
        hold(made.length == 1 && made[0].getParameterCount() == 0 && made[0].getModifiers() == Modifier.PUBLIC,
            "the constructor is another");
    }

    /** Every line of the document's face stands in the file as it stands there, the names of arguments too. */
    private static void faceAsItStands() throws IOException {
        String doc = Files.readString(Path.of("../shared/DOC.md"));
        Matcher block = Pattern.compile("(?s)```java\n(.*?)```").matcher(doc);
        hold(block.find(), "the document shows no face");
        Set<String> lines = new TreeSet<>(Files.readAllLines(MAIN));
        int told = 0;
        for (String line : block.group(1).split("\n")) {
            String due = line.endsWith(");") ? line.replace(");", ") {") : line;
            hold(lines.contains(due), "the file does not have '" + due + "'");
            told += line.contains("public") ? 1 : 0;
        }
        hold(told == 33, "the document's face has " + told + " lines");
    }

    private static void inside() {
        Set<String> names = FACE.stream().map(s -> s.replaceAll(".* |\\(.*", "")).collect(Collectors.toSet());
        Class<?>[] classes = Arrays.copyOf(PavedBan.class.getDeclaredClasses(), PavedBan.class.getDeclaredClasses().length + 1);
        hold(classes.length <= 12, "there are " + classes.length + " classes");
        classes[classes.length - 1] = PavedBan.class;
        for (Class<?> c : classes) {
            hold(c == PavedBan.class || Modifier.isStatic(c.getModifiers()), c + " is not static");
            int fields = 0;
            for (Field f : c.getDeclaredFields()) {
                boolean isStatic = Modifier.isStatic(f.getModifiers());
                hold(!isStatic || Modifier.isFinal(f.getModifiers()), f + " is static and not final");
                hold(!isStatic || CONSTANT_TYPES.contains(f.getType()), f + " is static, and no constant");
                fields += isStatic ? 0 : 1;
            }
            hold(fields <= 20, c + " has " + fields + " fields");
            for (Method m : c.getDeclaredMethods()) {
                hold(m.getParameterCount() <= 7, m + " takes too much");
                hold(c == PavedBan.class && shown(m) || !names.contains(m.getName()), m + " bears a public method's name");
                hold(!Set.of("equals", "hashCode", "toString").contains(m.getName()), m + " is not allowed");
            }
        }
    }

    private static void source() throws IOException {
        String whole = Files.readString(MAIN);
        hold(whole.chars().allMatch(c -> c == '\n' || c >= 32 && c < 127), "the file has other signs than ASCII's");
        String code = whole.replaceAll("(?s)/\\*.*?\\*/", "").replaceAll("//[^\n]*", "").replaceAll("\"[^\"\n]*\"", "\"\"");
        String banned = "\\b(throw|throws|try|catch|synchronized|assert|protected|package|yield|var|transient|volatile|native"
            + "|Object|Exception|Error|Random|Thread|System\\.(?!arraycopy)\\w+|\\w+Exact)\\b|->|::";
        Matcher m = Pattern.compile(banned).matcher(code);
        while (m.find()) {
            hold(false, "the file has '" + m.group() + "'");
        }
        m = Pattern.compile("import ([^;]*);").matcher(code);
        while (m.find()) {
            hold(Set.of("java.util.Arrays", "java.util.ArrayList", "java.util.List").contains(m.group(1)), "imports " + m.group(1));
        }
        Set<String> own = Arrays.stream(PavedBan.class.getDeclaredClasses()).map(Class::getSimpleName).collect(Collectors.toSet());
        m = Pattern.compile("\\b([A-Z]\\w*)\\.\\w+(?=\\()").matcher(code);
        while (m.find()) {
            hold(own.contains(m.group(1)) || LIBRARY.matcher(m.group()).matches(), "the file asks " + m.group());
        }
        methodLengths(whole.split("\n"));
    }

    private static void methodLengths(String[] lines) {
        int start = -1;
        String end = "";
        for (int i = 0; i < lines.length; i++) {
            if (start < 0 && lines[i].matches(" {4,8}[^ /*].*\\) \\{")) {
                start = i;
                end = lines[i].replaceAll("[^ ].*", "") + "}";
            } else if (start >= 0 && lines[i].equals(end)) {
                hold(i - start < LONGEST_METHOD, "the method at line " + (start + 1) + " is long");
                start = -1;
            }
        }
    }

    private static void typeAll(PavedBan x, String text) {
        for (int i = 0; i < text.length(); i++) {
            x.type(text.charAt(i), 1);
        }
    }

    private static void useAll(PavedBan x, String text) {
        x.clear();
        typeAll(x, text);
        x.town();
        for (int i = -1; i < 8; i++) {
            x.pave(i, i & 3);
            x.flood(i, 5);
            x.saw(i & 3, 1 << (i & 7));
            x.free(i - 1);
            x.stone(i - 2, i & 1);
            for (int j = -1; j < 8; j++) {
                x.piece(i, j);
                x.family(i, j);
                x.place(i, j);
                x.pole(i, j);
                x.one(i, j);
                x.match(i, j);
                x.shut(i, j);
                x.mark(i, j);
            }
            x.way(i);
            x.judge(i);
            x.all(i);
            x.who(i);
            x.keep(i);
            x.back(i);
            x.count(i);
        }
        x.change();
        x.rest();
        x.always();
        x.fits();
        x.forget();
        x.trace();
    }

    private static void objects() {
        var threads = (com.sun.management.ThreadMXBean) ManagementFactory.getThreadMXBean();
        long self = Thread.currentThread().getId();
        String text = "piece 0 1 5;piece 1 2 5;piece 2 3 5;piece 3 0 5;piece 0 2 9;piece 4 5 1;piece 3 4 7;piece 0 5 2;"
            + "family 0 2 3;family 1 3 1;family 2 0 2;family 5 2 9;";
        PavedBan x = new PavedBan();
        useAll(x, text);
        long before = threads.getThreadAllocatedBytes(self);
        for (int i = 0; i < 100; i++) {
            useAll(x, text);
        }
        long made = threads.getThreadAllocatedBytes(self) - before;
        hold(made < 2000, "calls made objects of " + made + " bytes");
        before = threads.getThreadAllocatedBytes(self);
        for (int i = 0; i < 100; i++) {
            new PavedBan();
        }
        made = (threads.getThreadAllocatedBytes(self) - before) / 100;
        hold(made < 9000, "an object takes " + made + " bytes");
    }

    public static void main(String[] args) throws IllegalAccessException, IOException {
        face();
        faceAsItStands();
        inside();
        source();
        objects();
        System.out.println(wrong == 0 ? "the form is as told" : wrong + " faults of form");
        if (wrong != 0) {
            System.exit(1);
        }
    }
}
