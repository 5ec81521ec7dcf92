import java.io.IOException;
import java.io.PrintWriter;
import java.io.StringWriter;
import java.lang.reflect.Constructor;
import java.lang.reflect.Field;
import java.lang.reflect.Method;
import java.lang.reflect.Modifier;
import java.nio.file.Files;
import java.nio.file.Path;
import java.util.ArrayList;
import java.util.HashSet;
import java.util.List;
import java.util.Map;
import java.util.Set;
import java.util.TreeMap;
import java.util.TreeSet;
import java.util.regex.Matcher;
import java.util.regex.Pattern;
import java.util.spi.ToolProvider;

/** The rules of LANGUAGE.md that a machine can see: the face, names, the library, calls' depth, what is made. */
public final class LanguageTest {
    private static final Set<String> FACE = Set.of(
        "int feed(int,int,int,int,int)", "int rules(int)", "int fault(int)", "int hours(int)", "int post(int)",
        "int read(int,int,int,boolean)", "int reading(int,int,int)", "int raw(int,int)", "long tries(int,int,int)",
        "int level(int)", "boolean land(int,int)", "boolean ground(int,int,int)", "boolean work(int,boolean,boolean)",
        "int world(int,int,int,int,int)", "int lava(int,int,int,int)", "int reached(int,int)",
        "int town(int,int,int,int)", "int shelter(int)", "int road(int,int,int,int,int,int)", "int warned(int)",
        "int ledOut(int,int)", "int cut(int,int,int)", "int cost(int)", "int candidate(int)", "int best(int,int)",
        "boolean wind(int,int,int)", "int ash(int,int)", "int look(int,int)", "int count(int)");
    private static final Set<String> LIBRARY = Set.of("java/lang/Object.\"<init>\"", "java/lang/Math.max",
        "java/lang/Math.min", "java/lang/Math.abs", "java/lang/String.length", "java/lang/String.charAt",
        "java/util/Arrays.fill", "java/lang/System.arraycopy", "java/lang/IndexOutOfBoundsException.\"<init>\"",
        "java/util/NoSuchElementException.\"<init>\"");
    private static final int DEEPEST = 8;

    private final Map<String, Set<String>> calls = new TreeMap<>();
    private final Set<String> outside = new TreeSet<>();
    private final Set<String> makers = new TreeSet<>();
    private final Set<String> visiting = new HashSet<>();

    public static void main(String[] args) throws IOException {
        theFace();
        fieldsOfClasses();
        namesOfMethods();
        LanguageTest test = new LanguageTest();
        test.readBytecode();
        test.judgeBytecode();
        theSource();
        Check.end("LanguageTest");
    }

    private static String signature(Method m) {
        List<String> types = new ArrayList<>();
        for (Class<?> type : m.getParameterTypes()) {
            types.add(type.getSimpleName());
        }
        return m.getReturnType().getSimpleName() + " " + m.getName() + "(" + String.join(",", types) + ")";
    }

    private static void theFace() {
        Class<?> face = VolcanoWatch.class;
        Check.due("public and final", face.getModifiers() == (Modifier.PUBLIC | Modifier.FINAL), true);
        Set<String> seen = new HashSet<>();
        for (Method m : face.getDeclaredMethods()) {
            if (!Modifier.isPrivate(m.getModifiers()) && !m.isSynthetic()) {
                Check.due("public " + m, m.getModifiers() == Modifier.PUBLIC, true);
                seen.add(signature(m));
            }
        }
        Check.due("the face's methods", seen.equals(FACE), true);
        for (Constructor<?> c : face.getDeclaredConstructors()) {
            Check.due("constructor " + c, c.getModifiers() == Modifier.PUBLIC && c.getParameterCount() == 0, true);
        }
        for (Field f : face.getDeclaredFields()) {
            boolean seenOutside = !Modifier.isPrivate(f.getModifiers());
            Check.due("field " + f, seenOutside, f.getName().equals("NONE"));
        }
        for (Class<?> inner : face.getDeclaredClasses()) {
            boolean hidden = !Modifier.isPublic(inner.getModifiers()) && !Modifier.isProtected(inner.getModifiers());
            Check.due("class " + inner, hidden && Modifier.isStatic(inner.getModifiers()), true);
        }
        Check.due("classes", face.getDeclaredClasses().length <= 11, true);
    }

    private static List<Class<?>> allClasses() {
        List<Class<?>> all = new ArrayList<>(List.of(VolcanoWatch.class.getDeclaredClasses()));
        all.add(VolcanoWatch.class);
        return all;
    }

    private static void fieldsOfClasses() {
        for (Class<?> c : allClasses()) {
            int own = 0;
            for (Field f : c.getDeclaredFields()) {
                boolean fixed = Modifier.isStatic(f.getModifiers());
                own += fixed ? 0 : 1;
                Check.due("type of " + f, fixed ? mayBeStatic(f) : mayBeHeld(f.getType()), true);
            }
            Check.due("fields of " + c, own <= 20, true);
            Check.due("kind of " + c, c.getInterfaces().length == 0 && c.getSuperclass() == Object.class, true);
        }
    }

    private static boolean mayBeStatic(Field f) {
        Set<Class<?>> types = Set.of(int.class, long.class, boolean.class, char.class, String.class, int[].class,
            long[].class, char[].class, byte[].class);
        return Modifier.isFinal(f.getModifiers()) && types.contains(f.getType());
    }

    private static boolean mayBeHeld(Class<?> type) {
        Class<?> held = type.isArray() ? type.getComponentType() : type;
        return held == int.class || held == long.class || held == boolean.class || allClasses().contains(held);
    }

    private static void namesOfMethods() {
        Set<String> names = new HashSet<>();
        for (String m : FACE) {
            names.add(m.substring(m.indexOf(' ') + 1, m.indexOf('(')));
        }
        for (Class<?> c : allClasses()) {
            for (Method m : c.getDeclaredMethods()) {
                boolean open = c == VolcanoWatch.class && Modifier.isPublic(m.getModifiers());
                Check.due("name of " + m, open || !names.contains(m.getName()), true);
                Check.due("parameters of " + m, m.getParameterCount() <= 7, true);
            }
        }
    }

    // ---- what javap tells

    private void readBytecode() throws IOException {
        Path classes = Path.of(System.getProperty("java.class.path"));
        try (var files = Files.list(classes)) {
            for (Path file : files.sorted().toList()) {
                if (file.getFileName().toString().matches("VolcanoWatch(\\$.*)?\\.class")) {
                    readClass(file);
                }
            }
        }
    }

    private void readClass(Path file) {
        StringWriter text = new StringWriter();
        PrintWriter writer = new PrintWriter(text);
        ToolProvider.findFirst("javap").orElseThrow().run(writer, writer, "-c", "-p", file.toString());
        String owner = file.getFileName().toString().replace(".class", "");
        Pattern method = Pattern.compile("^  (?:\\S.* )?([\\w$]+)\\(.*\\).*;$");
        Pattern call = Pattern.compile("// Method (.*?):\\(");
        Pattern making = Pattern.compile("^ +\\d+: (new|newarray|anewarray|multianewarray|invokedynamic) ");
        String at = "";
        for (String line : text.toString().split("\n")) {
            Matcher m = method.matcher(line);
            if (m.find()) {
                at = owner + "." + (m.group(1).equals(owner) ? "\"<init>\"" : m.group(1));
            } else if (line.equals("  static {};")) {
                at = owner + ".\"<clinit>\"";
            }
            calls.putIfAbsent(at, new TreeSet<>());
            Matcher c = call.matcher(line);
            if (c.find()) {
                note(at, c.group(1).contains(".") ? c.group(1) : owner + "." + c.group(1));
            }
            if (making.matcher(line).find() && !line.contains("Exception")) {
                makers.add(at);
            }
        }
    }

    private void note(String from, String to) {
        calls.get(from).add(to);
        if (!to.startsWith("VolcanoWatch")) {
            outside.add(to);
        }
    }

    private void judgeBytecode() {
        Check.due("methods found", calls.size() > 100, true);
        for (String name : outside) {
            Check.due("the library: " + name, LIBRARY.contains(name), true);
        }
        for (String name : makers) {
            boolean atStart = name.endsWith(".\"<init>\"") || name.endsWith(".\"<clinit>\"");
            Check.due("nothing is made by " + name, atStart, true);
        }
        for (String name : calls.keySet()) {
            Check.due("calls from " + name + " go " + depth(name) + " deep", depth(name) <= DEEPEST, true);
        }
    }

    /** How many calls stand open at most, this one and the library's too; 1000 for a call of itself. */
    private int depth(String name) {
        if (!visiting.add(name)) {
            return 1000;
        }
        int deepest = 0;
        for (String next : calls.getOrDefault(name, Set.of())) {
            deepest = Math.max(deepest, depth(next));
        }
        visiting.remove(name);
        return deepest + 1;
    }

    // ---- what the text tells

    private static void theSource() throws IOException {
        String text = Files.readString(Path.of("src/main/java/VolcanoWatch.java"));
        String code = text.replaceAll("(?s)/\\*.*?\\*/", "").replaceAll("//.*", "").replaceAll("\"[^\"\n]*\"", "\"\"");
        String[] banned = {"->", "::", "finally", "synchronized", "assert ", "static {", "catch", "try ", "Exact(",
            "float ", "double ", "var ", "System.out", "String.format", "@Override", "record ", "while (true)",
            "for (;;)", "hashCode", "equals(", "toString"};
        for (String word : banned) {
            Check.due("the source has " + word, code.contains(word), false);
        }
        for (int i = 0; i < text.length(); i++) {
            if (text.charAt(i) > 126) {
                Check.due("a sign beyond 126 at " + i, true, false);
            }
        }
        int start = -1;
        String[] lines = text.split("\n");
        for (int i = 0; i < lines.length; i++) {
            Check.due("length of line " + (i + 1), lines[i].length() <= 120, true);
            if (lines[i].matches(" *(for|while) \\(.*")) {
                boolean bound = lines[i].matches(".* (<|<=|>|>=) .*");
                Check.due("a counter against a bound in the loop of line " + (i + 1), bound, true);
            }
            if (lines[i].matches(" {4,8}[a-zA-Z].*\\) (throws .*)?\\{")) {
                start = i;
            }
            if (start >= 0 && lines[i].matches(" {4,8}\\}")) {
                Check.due("lines of the method at " + (start + 1), i - start < 60, true);
                start = -1;
            }
        }
    }
}
