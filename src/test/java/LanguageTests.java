import java.lang.management.ManagementFactory;
import java.lang.reflect.Constructor;
import java.lang.reflect.Field;
import java.lang.reflect.Method;
import java.lang.reflect.Modifier;
import java.nio.charset.StandardCharsets;
import java.nio.file.Files;
import java.nio.file.Path;
import java.util.Set;
import java.util.TreeSet;
import java.util.regex.Matcher;
import java.util.regex.Pattern;

// What can be told of ../shared/LANGUAGE.md from the class, from its text and by running it.
// The text is read from the folder that .ci/run starts the tests in.
public final class LanguageTests {
    private static final String PROGRAM = "src/main/java/WeighingDesign.java";

    private static int wrong = 0;

    public static void main(String[] args) throws Exception {
        face();
        insideClasses();
        text();
        room();
        System.out.println(wrong == 0 ? "all answers are as due" : wrong + " answers are not as due");
        if (wrong != 0) {
            System.exit(1);
        }
    }

    private static void due(String told, Object got, Object want) {
        if (!got.equals(want)) {
            wrong++;
            System.out.println(told + " is " + got + ", due is " + want);
        }
    }

    /** The document's public face, member for member, and nothing else that is not private. */
    private static void face() {
        Set<String> want = new TreeSet<>(Set.of("new()", "int INVALID_ARGUMENT", "int NOT_POSSIBLE",
                "int LIMIT_REACHED", "int NOT_FOUND"));
        String methods = "int set 2,int addRow 2,int dropRow 1,int take 2,int dropReading 2,int row 2,"
                + "int reading 2,int find 2,int count 1,int undo 0,long value 2,long pan 1,long residual 3,"
                + "long balance 2,long mean 2,int worst 1,long without 4,int chain 1,long panBy 2,"
                + "int mostSuspect 0,int type 1,int clearText 0,int fault 1,int enter 0";
        want.addAll(Set.of(methods.split(",")));
        Set<String> got = new TreeSet<>();
        Set<String> hidden = new TreeSet<>();
        for (Method m : WeighingDesign.class.getDeclaredMethods()) {
            if (Modifier.isPrivate(m.getModifiers())) {
                hidden.add(m.getName());
                continue;
            }
            got.add(m.getReturnType() + " " + m.getName() + " " + m.getParameterCount());
            due("public " + m, Modifier.isPublic(m.getModifiers()) && !Modifier.isStatic(m.getModifiers()), true);
            for (Class<?> parameter : m.getParameterTypes()) {
                due("a parameter of " + m, parameter, int.class);
            }
        }
        for (Field f : WeighingDesign.class.getDeclaredFields()) {
            if (!Modifier.isPrivate(f.getModifiers())) {
                got.add(f.getType() + " " + f.getName());
                due(f.getName(), Modifier.toString(f.getModifiers()), "public static final");
            } else {
                due(f + " final", Modifier.isFinal(f.getModifiers()), true);
            }
        }
        for (Constructor<?> c : WeighingDesign.class.getDeclaredConstructors()) {
            got.add("new(" + (c.getParameterCount() == 0 ? "" : "..") + ")");
            due("public constructor", Modifier.isPublic(c.getModifiers()), true);
        }
        due("the face", got, want);
        due("the class", Modifier.toString(WeighingDesign.class.getModifiers()), "public final");
        for (String name : hidden) {
            due("public method with the private name " + name, methods.contains(" " + name + " "), false);
        }
    }

    private static void insideClasses() {
        Class<?>[] inside = WeighingDesign.class.getDeclaredClasses();
        due("at most twelve classes", inside.length <= 11, true);
        for (Class<?> c : inside) {
            due(c + " static", Modifier.isStatic(c.getModifiers()), true);
            due(c + " public or protected", (c.getModifiers() & (Modifier.PUBLIC | Modifier.PROTECTED)) != 0, false);
            due(c + " with few fields", c.getDeclaredFields().length <= 20, true);
        }
    }

    /** Some of these words the rules leave; the class does without them, and so the look is plain. */
    private static void text() throws Exception {
        String source = Files.readString(Path.of(PROGRAM), StandardCharsets.ISO_8859_1);
        String code = Pattern.compile("/\\*.*?\\*/|//[^\n]*", Pattern.DOTALL).matcher(source).replaceAll(" ");
        String[] words = {"throw", "throws", "try", "catch", "synchronized", "assert", "import", "package",
            "equals", "hashCode", "toString", "Exact", "volatile", "transient", "native", "float", "double",
            "Object", "Random", "Thread", "nanoTime", "currentTimeMillis", "getenv", "out"};
        for (String word : words) {
            due("the word " + word, Pattern.compile("\\b" + word + "\\b").matcher(code).find(), false);
        }
        due("a lambda or a method reference", code.contains("->") || code.contains("::"), false);
        due("a sign beyond 127", Pattern.compile("[^\\x00-\\x7f]").matcher(source).find(), false);
        longestMethod(code);
    }

    /** A method begins at an opening brace behind a list of parameters; sixty lines are short. */
    private static void longestMethod(String code) {
        Matcher opening = Pattern.compile("\\n( {4}| {8})(\\w[^;={}\\n]*\\))\\s*\\{\\n").matcher(code);
        int methods = 0;
        while (opening.find()) {
            int end = code.indexOf("\n" + opening.group(1) + "}\n", opening.end() - 1);
            int lines = (int) code.substring(opening.start() + 1, end).chars().filter(c -> c == '\n').count() + 1;
            due(opening.group(2) + " short", lines <= 60, true);
            methods++;
        }
        due("methods found", methods > 60, true);
    }

    /** All is made in the constructor: 512 calls more need no room to speak of. */
    private static void room() {
        var threads = (com.sun.management.ThreadMXBean) ManagementFactory.getThreadMXBean();
        long thread = Thread.currentThread().getId();
        useAll(new WeighingDesign());
        long start = threads.getThreadAllocatedBytes(thread);
        WeighingDesign x = new WeighingDesign();
        long made = threads.getThreadAllocatedBytes(thread) - start;
        useAll(x);
        long used = threads.getThreadAllocatedBytes(thread) - start - made;
        due("a new object of at most 16000 bytes", made <= 16000, true);
        due("calls with at most 1000 bytes", used <= 1000, true);
    }

    private static void useAll(WeighingDesign x) {
        for (int mass = 1; mass < 5; mass++) {
            x.take(x.addRow(1, 1 << mass), mass);
            x.take(x.addRow(1 << mass, 1), mass);
        }
        for (int n = 0; n < 14; n++) {
            x.type("0:1=5;01:234=6;".charAt(n));
        }
        for (int n = 0; n < 20; n++) {
            x.type(';');
            x.fault(0);
            x.enter();
            x.clearText();
            x.set(1, n % 2);
            for (int what = 0; what < 14; what++) {
                x.count(what);
            }
            x.value(1, 1);
            x.pan(0);
            x.residual(0, 0, 0);
            x.balance(0, 0);
            x.mean(0, 0);
            x.worst(0);
            x.without(0, 0, 1, 0);
            x.chain(4);
            x.panBy(0, 0);
            x.mostSuspect();
            x.find(1, 2);
            x.row(0, 4);
            x.reading(0, 0);
            x.dropReading(0, 0);
            x.dropRow(0);
            x.undo();
            x.undo();
        }
    }
}
