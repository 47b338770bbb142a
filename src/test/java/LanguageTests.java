import java.lang.management.ManagementFactory;
import java.lang.reflect.Constructor;
import java.lang.reflect.Field;
import java.lang.reflect.Method;
import java.lang.reflect.Modifier;
import java.nio.charset.StandardCharsets;
import java.nio.file.Files;
import java.nio.file.Path;
import java.util.Arrays;
import java.util.Comparator;
import java.util.HashMap;
import java.util.Map;
import java.util.Set;
import java.util.TreeSet;
import java.util.regex.Matcher;
import java.util.regex.Pattern;

// What can be told of ../shared/LANGUAGE.md from the class, from its text and by running it.
// The text is read from the folder that .ci/run starts the tests in.
public final class LanguageTests {
    private static final String PROGRAM = "src/main/java/WeighingDesign.java";

    private static int wrong = 0;

    public static void main(String[] args) throws Exception {
        face();
        insideClasses();
        text();
        room();
        anyArguments();
        System.out.println(wrong == 0 ? "all answers are as due" : wrong + " answers are not as due");
        if (wrong != 0) {
            System.exit(1);
        }
    }

    private static void due(String told, Object got, Object want) {
        if (!got.equals(want)) {
            wrong++;
            System.out.println(told + " is " + got + ", due is " + want);
        }
    }

    /** The document's public face, member for member, and nothing else that is not private. */
    private static void face() {
        Set<String> want = new TreeSet<>(Set.of("new()", "int INVALID_ARGUMENT", "int NOT_POSSIBLE",
                "int LIMIT_REACHED", "int NOT_FOUND"));
        String methods = "int set 2,int addRow 2,int dropRow 1,int take 2,int dropReading 2,int row 2,"
                + "int reading 2,int find 2,int count 1,int undo 0,long value 2,long pan 1,long residual 3,"
                + "long balance 2,long mean 2,int worst 1,long without 4,int chain 1,long panBy 2,"
                + "int mostSuspect 0,int type 1,int clearText 0,int fault 1,int enter 0";
        want.addAll(Set.of(methods.split(",")));
        Set<String> got = new TreeSet<>();
        Set<String> hidden = new TreeSet<>();
        for (Method m : WeighingDesign.class.getDeclaredMethods()) {
            if (Modifier.isPrivate(m.getModifiers())) {
                hidden.add(m.getName());
                continue;
            }
            got.add(m.getReturnType() + " " + m.getName() + " " + m.getParameterCount());
            due("public " + m, Modifier.isPublic(m.getModifiers()) && !Modifier.isStatic(m.getModifiers()), true);
            for (Class<?> parameter : m.getParameterTypes()) {
                due("a parameter of " + m, parameter, int.class);
            }
        }
        for (Field f : WeighingDesign.class.getDeclaredFields()) {
            if (!Modifier.isPrivate(f.getModifiers())) {
                got.add(f.getType() + " " + f.getName());
                due(f.getName(), Modifier.toString(f.getModifiers()), "public static final");
            } else {
                due(f + " final", Modifier.isFinal(f.getModifiers()), true);
            }
        }
        for (Constructor<?> c : WeighingDesign.class.getDeclaredConstructors()) {
            got.add("new(" + (c.getParameterCount() == 0 ? "" : "..") + ")");
            due("public constructor", Modifier.isPublic(c.getModifiers()), true);
        }
        due("the face", got, want);
        due("the class", Modifier.toString(WeighingDesign.class.getModifiers()), "public final");
        for (Class<?> c : WeighingDesign.class.getDeclaredClasses()) {
            for (Method m : c.getDeclaredMethods()) {
                hidden.add(m.getName());
            }
        }
        for (String name : hidden) {
            due("public method with the private name " + name, methods.contains(" " + name + " "), false);
        }
    }

    private static void insideClasses() {
        Class<?>[] inside = WeighingDesign.class.getDeclaredClasses();
        due("at most twelve classes", inside.length <= 11, true);
        members(WeighingDesign.class);
        for (Class<?> c : inside) {
            due(c + " static", Modifier.isStatic(c.getModifiers()), true);
            due(c + " public or protected", (c.getModifiers() & (Modifier.PUBLIC | Modifier.PROTECTED)) != 0, false);
            due(c + " without classes of its own", c.getDeclaredClasses().length, 0);
            members(c);
        }
    }

    /** What all objects share is a constant: another one's calls change nothing of an object. */
    private static void members(Class<?> c) {
        Set<Class<?>> constants = Set.of(int.class, long.class, boolean.class, char.class, String.class);
        int fields = 0;
        for (Field f : c.getDeclaredFields()) {
            if (Modifier.isStatic(f.getModifiers())) {
                boolean constant = Modifier.isFinal(f.getModifiers()) && constants.contains(f.getType());
                due(f + " a constant", constant, true);
            } else {
                fields++;
            }
        }
        due(c + " with few fields", fields <= 20, true);
        for (Method m : c.getDeclaredMethods()) {
            due(m + " with few parameters", m.getParameterCount() <= 7, true);
        }
    }

    /** Some of these words the rules leave; the class does without them, and so the look is plain. */
    private static void text() throws Exception {
        String source = Files.readString(Path.of(PROGRAM), StandardCharsets.ISO_8859_1);
        String code = Pattern.compile("/\\*.*?\\*/|//[^\n]*", Pattern.DOTALL).matcher(source).replaceAll(" ");
        String[] words = {"throw", "throws", "try", "catch", "synchronized", "assert", "import", "package",
            "equals", "hashCode", "toString", "Exact", "volatile", "transient", "native", "float", "double",
            "Object", "Random", "Thread", "nanoTime", "currentTimeMillis", "getenv", "out"};
        for (String word : words) {
            due("the word " + word, Pattern.compile("\\b" + word + "\\b").matcher(code).find(), false);
        }
        due("a lambda or a method reference", code.contains("->") || code.contains("::"), false);
        due("a sign beyond 127", Pattern.compile("[^\\x00-\\x7f]").matcher(source).find(), false);
        Map<String, String> methods = methodsOf(code);
        due("methods found", methods.size() > 60, true);
        Map<String, Integer> known = new HashMap<>();
        for (String name : methods.keySet()) {
            due("calls from " + name + " at most eight deep", openFrom(name, methods, known) <= 8, true);
        }
    }

    /**
     * The bodies by the methods' names, those of one name together. A method begins at an opening
     * brace behind a list of parameters; sixty lines are short.
     */
    private static Map<String, String> methodsOf(String code) {
        Matcher opening = Pattern.compile("\\n( {4}| {8})(\\w[\\w\\[\\] ]* )?(\\w+)\\([^;={}()\\n]*\\)\\s*\\{\\n").matcher(code);
        Map<String, String> methods = new HashMap<>();
        while (opening.find()) {
            String name = opening.group(3);
            int end = code.indexOf("\n" + opening.group(1) + "}\n", opening.end() - 1);
            String body = code.substring(opening.end() - 1, end);
            due(name + " short", body.chars().filter(c -> c == '\n').count() + 2 <= 60, true);
            methods.merge(name, body, (one, more) -> one + "\n" + more);
        }
        return methods;
    }

    private static final Set<String> BEFORE_PARENTHESES = Set.of("if", "for", "while", "switch", "return");

    private static final Set<String> LIBRARY = Set.of("abs", "max", "bitCount");

    private static final int STILL_OPEN = 0;

    /** How many are open at once from this one on; calls of one that is open would be recursion. */
    private static int openFrom(String name, Map<String, String> methods, Map<String, Integer> known) {
        if (!known.containsKey(name)) {
            known.put(name, STILL_OPEN);
            int further = 0;
            for (String called : callsOf(methods, name)) {
                further = Math.max(further, openFrom(called, methods, known));
            }
            known.put(name, 1 + further);
        }
        due(name + " called while it is open", known.get(name) == STILL_OPEN, false);
        return known.get(name);
    }

    /** Of methods of the class; of the library's, it calls those alone that are named here. */
    private static Set<String> callsOf(Map<String, String> methods, String name) {
        Set<String> calls = new TreeSet<>();
        Matcher call = Pattern.compile("\\b(\\w+)\\s*\\(").matcher(methods.get(name));
        while (call.find()) {
            if (methods.containsKey(call.group(1))) {
                calls.add(call.group(1));
            } else if (!BEFORE_PARENTHESES.contains(call.group(1))) {
                due(call.group(1) + " of the library, called by " + name, LIBRARY.contains(call.group(1)), true);
            }
        }
        return calls;
    }

    /** All is made in the constructor: 512 calls more need no room to speak of. */
    private static void room() {
        var threads = (com.sun.management.ThreadMXBean) ManagementFactory.getThreadMXBean();
        long thread = Thread.currentThread().getId();
        useAll(new WeighingDesign());
        long start = threads.getThreadAllocatedBytes(thread);
        WeighingDesign x = new WeighingDesign();
        long made = threads.getThreadAllocatedBytes(thread) - start;
        useAll(x);
        long used = threads.getThreadAllocatedBytes(thread) - start - made;
        due("a new object of at most 16000 bytes", made <= 16000, true);
        due("calls with at most 1000 bytes", used <= 1000, true);
    }

    private static void useAll(WeighingDesign x) {
        for (int mass = 1; mass < 5; mass++) {
            x.take(x.addRow(1, 1 << mass), mass);
            x.take(x.addRow(1 << mass, 1), mass);
        }
        for (int n = 0; n < 14; n++) {
            x.type("0:1=5;01:234=6;".charAt(n));
        }
        for (int n = 0; n < 20; n++) {
            x.type(';');
            x.fault(0);
            x.enter();
            x.clearText();
            x.set(1, n % 2);
            for (int what = 0; what < 14; what++) {
                x.count(what);
            }
            x.value(1, 1);
            x.pan(0);
            x.residual(0, 0, 0);
            x.balance(0, 0);
            x.mean(0, 0);
            x.worst(0);
            x.without(0, 0, 1, 0);
            x.chain(4);
            x.panBy(0, 0);
            x.mostSuspect();
            x.find(1, 2);
            x.row(0, 4);
            x.reading(0, 0);
            x.dropReading(0, 0);
            x.dropRow(0);
            x.undo();
            x.undo();
        }
    }

    /** Any calls with any arguments, also far beyond what an object is used for: none throws, each ends. */
    private static void anyArguments() throws Exception {
        Method[] methods = WeighingDesign.class.getDeclaredMethods();
        Arrays.sort(methods, Comparator.comparing(Method::getName));
        int[] usual = {0, 1, 2, 3, 4, 5, 8, 16};
        int[] wild = {Integer.MIN_VALUE, Integer.MIN_VALUE + 1, -100001, -100000, -32, -2, -1, 6, 7, 11, 12, 13,
            14, 15, 16, 30, 31, 32, 48, 49, 58, 59, 61, 126, 127, 100000, 100001, 65536, 715827883, Integer.MAX_VALUE};
        long seed = 9;
        WeighingDesign x = new WeighingDesign();
        int whole = 0;
        for (int n = 0; n < 300000; n++) {
            seed = seed * 6364136223846793005L + 1442695040888963407L;
            Method m = methods[(int) (seed >>> 33) % methods.length];
            if (Modifier.isPublic(m.getModifiers()) && (!m.getName().startsWith("drop") || n % 4 == 0)) {
                Object[] arguments = new Object[m.getParameterCount()];
                for (int i = 0; i < arguments.length; i++) {
                    seed = seed * 6364136223846793005L + 1442695040888963407L;
                    int choice = (int) (seed >>> 33) % 200;
                    arguments[i] = choice < wild.length ? wild[choice] : usual[choice % usual.length];
                }
                m.invoke(x, arguments);
                whole += x.count(5);
            }
        }
        due("often whole", whole > 10000, true);
        due("rows beyond twelve", x.count(3) > 12, false);
        due("states beyond five", x.count(11) > 5, false);
        due("characters beyond eighty", x.count(12) > 80, false);
    }
}
