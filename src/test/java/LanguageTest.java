import java.io.IOException;
import java.lang.reflect.Constructor;
import java.lang.reflect.Field;
import java.lang.reflect.Method;
import java.lang.reflect.Modifier;
import java.nio.file.Files;
import java.nio.file.Path;
import java.util.ArrayList;
import java.util.Collections;
import java.util.HashSet;
import java.util.List;
import java.util.Map;
import java.util.Set;
import java.util.TreeMap;
import java.util.TreeSet;
import java.util.regex.Matcher;
import java.util.regex.Pattern;

/** The public face, and what LANGUAGE.md rules out, as far as reflection and a look at the text can tell. */
public final class LanguageTest {
    private static final Pattern RULED_OUT = Pattern.compile(
        "\\b(throw|throws|try|catch|synchronized|assert|import|package|float|double|equals|hashCode|Exact|protected|volatile"
        + "|native|var|yield|sealed|goto)\\b|->|::|@|\\bnew \\w+\\([^)]*\\) \\{|Exact\\(");
    private static final int MOST_LINES_OF_A_METHOD = 60;
    private static final int MOST_CALLS_DEEP = 8;
    private static int wrong = 0;

    public static void main(String[] args) throws IOException, IllegalAccessException {
        Face face = Face.ofDocument();
        face(face);
        for (Class<?> c : classes()) shape(c);
        String source = Files.readString(Path.of("src/main/java/FuguePlan.java"));
        String code = source.replaceAll("(?s)/\\*.*?\\*/", "").replaceAll("//[^\n]*", "");
        declared(face, code);
        text(source, code);
        depth(methods(code));
        System.out.println(wrong == 0 ? "the language is kept to" : wrong + " breaches");
        if (wrong != 0) System.exit(1);
    }

    private static void due(boolean holds, String what) {
        if (holds) return;
        wrong++;
        System.out.println("breach: " + what);
    }

    private static List<Class<?>> classes() {
        List<Class<?>> out = new ArrayList<>(List.of(FuguePlan.class.getDeclaredClasses()));
        out.add(0, FuguePlan.class);
        return out;
    }

    private static void face(Face face) throws IllegalAccessException {
        int modifiers = FuguePlan.class.getModifiers();
        due(Modifier.isPublic(modifiers) && Modifier.isFinal(modifiers), "public final class");
        Set<String> faces = new TreeSet<>();
        Set<String> names = new HashSet<>();
        for (Method m : FuguePlan.class.getDeclaredMethods()) {
            if (Modifier.isPrivate(m.getModifiers())) continue;
            due(m.getModifiers() == Modifier.PUBLIC, "only public: " + m);
            StringBuilder args = new StringBuilder();
            for (Class<?> a : m.getParameterTypes()) args.append(args.length() == 0 ? "" : ",").append(a.getName());
            faces.add(m.getReturnType().getName() + " " + m.getName() + "(" + args + ")");
            names.add(m.getName());
        }
        Set<String> wanted = new TreeSet<>();
        for (Face.Method m : face.methods) {
            wanted.add(m.type() + " " + m.name() + "(" + String.join(",", Collections.nCopies(m.given().size(), "int")) + ")");
        }
        due(wanted.size() == 34 && faces.equals(wanted), "the methods: " + faces);
        for (Class<?> c : classes()) {
            for (Method m : c.getDeclaredMethods()) {
                due(c == FuguePlan.class && m.getModifiers() == Modifier.PUBLIC || !names.contains(m.getName()), "rule 1, a public name: " + m);
            }
        }
        Constructor<?>[] made = FuguePlan.class.getDeclaredConstructors();
        due(made.length == 1 && made[0].getModifiers() == Modifier.PUBLIC && made[0].getParameterCount() == 0, "the constructor");
        constants(face);
    }

    private static void constants(Face face) throws IllegalAccessException {
        Map<String, Integer> open = new TreeMap<>();
        for (Field f : FuguePlan.class.getDeclaredFields()) {
            if (Modifier.isPrivate(f.getModifiers())) continue;
            boolean isConstant = f.getModifiers() == (Modifier.PUBLIC | Modifier.STATIC | Modifier.FINAL) && f.getType() == int.class;
            due(isConstant, "public static final int: " + f);
            open.put(f.getName(), isConstant ? f.getInt(null) : 0);
        }
        due(open.size() == 4 && open.equals(face.constants), "the constants: " + open);
    }

    /** What the class declares in public is what the document's code block does, word for word, in its order. */
    private static void declared(Face face, String code) {
        List<String> wanted = new ArrayList<>();
        for (Face.Method m : face.methods) wanted.add(m.declared());
        List<String> found = new ArrayList<>();
        Matcher m = Pattern.compile("\n    (public (?:int|long) [^;{]*\\)) \\{").matcher(code);
        while (m.find()) found.add(m.group(1));
        due(found.equals(wanted), "declared in public: " + found);
        due(code.contains("\npublic final class FuguePlan {\n") || code.startsWith("public final class FuguePlan {\n"), "the class's first line");
    }

    private static void shape(Class<?> c) {
        int fields = 0;
        for (Field f : c.getDeclaredFields()) {
            if (Modifier.isStatic(f.getModifiers())) {
                due(Modifier.isFinal(f.getModifiers()) && (f.getType().isPrimitive() || f.getType() == String.class), "rule 5: " + f);
            } else {
                fields++;
            }
        }
        due(fields <= 20, "rule 11, fields of " + c);
        for (Method m : c.getDeclaredMethods()) {
            due(m.getParameterCount() <= 7, "rule 11, parameters: " + m);
            due(!m.isSynthetic(), "rule 2, made by the compiler: " + m);
        }
        if (c == FuguePlan.class) {
            due(c.getDeclaredClasses().length < 12, "rule 11, classes");
            return;
        }
        due(Modifier.isStatic(c.getModifiers()) && !Modifier.isPublic(c.getModifiers()), "rule 1: " + c);
        due(c.getDeclaredClasses().length == 0, "rule 2: " + c);
    }

    private static void text(String source, String code) {
        for (int i = 0; i < source.length(); i++) {
            if (source.charAt(i) > 126) due(false, "a sign beyond 126 at " + i);
        }
        Matcher m = RULED_OUT.matcher(code);
        while (m.find()) due(false, "ruled out: " + m.group());
        due(!code.contains("String") && !code.contains("System."), "no texts are needed");
        due(!Pattern.compile("\\bwhile \\(true|for \\(;;").matcher(code).find(), "rule 9");
        Matcher made = Pattern.compile("\n {8,}[^\n]*\\bnew (\\w+)").matcher(code);
        while (made.find()) {
            String line = made.group();
            due(line.contains(" final ") || line.contains("items[") || line.contains("lines[") || line.contains("kept["),
                "rule 12, made outside a constructor: " + line.strip());
        }
    }

    private record Body(String name, String code) {
    }

    private static List<Body> methods(String code) {
        List<Body> out = new ArrayList<>();
        Matcher m = Pattern.compile("\n( {4}| {8})(?:\\w+ )*?(?:int|long|boolean|void)(?:\\[\\])? (\\w+)\\([^{};]*\\{(?s:(.*?))\n\\1\\}").matcher(code);
        while (m.find()) {
            int lines = m.group().split("\n").length;
            due(lines <= MOST_LINES_OF_A_METHOD, "rule 11, lines of " + m.group(2));
            out.add(new Body(m.group(2), m.group(3)));
        }
        due(out.size() > 100, "rule 11 looks at all methods, found " + out.size());
        return out;
    }

    /** Calls of one name are taken to go to every method of that name, so this errs on the strict side. */
    private static void depth(List<Body> bodies) {
        Set<String> names = new HashSet<>();
        for (Body b : bodies) names.add(b.name);
        for (Body b : bodies) {
            int deep = deepest(b.name, bodies, names, 1);
            due(deep <= MOST_CALLS_DEEP, "rule 11, calls " + deep + " deep from " + b.name);
        }
    }

    private static int deepest(String name, List<Body> bodies, Set<String> names, int sofar) {
        int deep = sofar;
        if (sofar > 20) return deep;
        for (Body b : bodies) {
            if (!b.name.equals(name)) continue;
            Matcher m = Pattern.compile("(\\w+)\\(").matcher(b.code);
            while (m.find()) {
                String called = m.group(1);
                if (m.start() > 0 && b.code.substring(0, m.start()).endsWith("Math.")) deep = Math.max(deep, sofar + 1);
                else if (names.contains(called) && (!called.equals(name) || b.code.charAt(Math.max(0, m.start() - 1)) != '.')) {
                    deep = Math.max(deep, deepest(called, bodies, names, sofar + 1));
                }
            }
        }
        return deep;
    }
}
