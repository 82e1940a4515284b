import java.io.ByteArrayOutputStream;
import java.io.File;
import java.io.IOException;
import java.lang.reflect.Method;
import java.net.URL;
import java.net.URLClassLoader;
import java.nio.file.Files;
import java.nio.file.Path;
import java.util.ArrayList;
import java.util.HashSet;
import java.util.List;
import java.util.Set;
import java.util.regex.Matcher;
import java.util.regex.Pattern;
import java.util.stream.Stream;
import javax.tools.JavaCompiler;
import javax.tools.ToolProvider;

/** README.md: its examples are compiled, run and answer as it says; its tables tell of the whole face what the promises do. */
public final class ReadmeTest extends Checks {
    private static final Pattern EXAMPLE = Pattern.compile("(?s)```java\n(.*?)```");
    private static final Pattern ASKED = Pattern.compile("plan\\.(\\w+)\\((.*)\\); *// (-?\\d+)(: .+)?");
    private static final Pattern ROW = Pattern.compile("\\| `(\\w+\\(.*?\\))` \\|(.*)\\|(.*)\\|(.*)\\|(.*)\\|");
    private static final Pattern CONSTANT = Pattern.compile("\\| `([A-Z]+)` \\| (-?\\d+) \\| .+ \\|");

    public static void main(String[] args) throws IOException, ReflectiveOperationException {
        String readme = Files.readString(Path.of("README.md"));
        Face face = Face.ofDocument();
        examples(readme, face);
        tables(readme, face);
        constants(readme, face);
        tests(readme);
        end();
    }

    // ---- examples

    private static void examples(String readme, Face face) throws IOException, ReflectiveOperationException {
        says("the calls that README.md shows as examples");
        List<String> sources = new ArrayList<>();
        Set<String> shown = new HashSet<>();
        Matcher example = EXAMPLE.matcher(readme);
        while (example.find()) sources.add(sourceOf(sources.size(), example.group(1), shown));
        for (Face.Method m : face.methods) due("README.md shows " + m.name(), shown.contains(m.name()) ? 1 : 0, 1);
        Path folder = Files.createTempDirectory("readme");
        try {
            compile(folder, sources);
            run(folder, sources.size());
        } finally {
            delete(folder);
        }
    }

    /** A class whose run(..) tells of each call its text, what it answered, and what README.md says that it answers. */
    private static String sourceOf(int number, String example, Set<String> shown) {
        StringBuilder out = new StringBuilder("public final class Example" + number + " {\n");
        out.append("public static void run(java.util.List<Object[]> asked) {\n");
        for (String line : example.split("\n")) {
            Matcher asked = ASKED.matcher(line);
            if (asked.matches()) {
                String call = "plan." + asked.group(1) + "(" + asked.group(2) + ")";
                out.append("asked.add(new Object[] {\"" + call + "\", (long) " + call + ", " + asked.group(3) + "L});\n");
                shown.add(asked.group(1));
            } else {
                boolean isSaid = line.isEmpty() || line.equals("FuguePlan plan = new FuguePlan();") || line.startsWith("for (char c : \"");
                due("the line \"" + line + "\" tells what its call answers", isSaid ? 1 : 0, 1);
                out.append(line).append('\n');
            }
        }
        return out.append("}\n}\n").toString();
    }

    private static void compile(Path folder, List<String> sources) throws IOException {
        List<String> told = new ArrayList<>(List.of("-cp", System.getProperty("java.class.path"), "-d", folder.toString()));
        for (int i = 0; i < sources.size(); i++) {
            Path file = folder.resolve("Example" + i + ".java");
            Files.writeString(file, sources.get(i));
            told.add(file.toString());
        }
        JavaCompiler compiler = ToolProvider.getSystemJavaCompiler();
        ByteArrayOutputStream said = new ByteArrayOutputStream();
        int code = compiler.run(null, said, said, told.toArray(new String[0]));
        if (code != 0) System.out.println(said);
        due("the examples compile", code, 0);
    }

    private static void run(Path folder, int number) throws IOException, ReflectiveOperationException {
        List<Object[]> asked = new ArrayList<>();
        try (URLClassLoader loader = new URLClassLoader(new URL[] {folder.toUri().toURL()})) {
            for (int i = 0; i < number; i++) {
                Method run = loader.loadClass("Example" + i).getMethod("run", List.class);
                int before = asked.size();
                run.invoke(null, asked);
                for (Object[] a : asked.subList(before, asked.size())) due("example " + i + ", " + a[0], (long) a[1], (long) a[2]);
            }
        }
        due("there are examples of each part", asked.size() >= 80 ? 1 : 0, 1);
    }

    private static void delete(Path folder) throws IOException {
        try (Stream<Path> files = Files.list(folder)) {
            files.map(Path::toFile).forEach(File::delete);
        }
        Files.delete(folder);
    }

    // ---- tables

    /** A row a method: what it is given, what it answers, how it is refused, S; the last two as the promise has them. */
    private static void tables(String readme, Face face) {
        says("each method of the public face, what it is given and what it answers");
        List<String> calls = new ArrayList<>();
        List<String> wanted = new ArrayList<>(List.of("FuguePlan()"));
        for (Face.Method m : face.methods) wanted.add(m.call());
        for (String line : readme.split("\n")) {
            Matcher row = ROW.matcher(line);
            if (!row.matches()) continue;
            calls.add(row.group(1));
            for (int i = 2; i <= 4; i++) due(row.group(1) + ", column " + i + " tells something", row.group(i).isBlank() ? 0 : 1, 1);
            for (Face.Method m : face.methods) {
                if (m.call().equals(row.group(1))) row(m, face.promise(m), row);
            }
        }
        due("README.md tells of the whole face, in its order: " + calls, calls.equals(wanted) ? 1 : 0, 1);
    }

    private static void row(Face.Method m, String said, Matcher row) {
        // told tells how often: that is no refusal of its own
        String promise = said.replaceAll("\\b(BAD|NO|FULL) \\(\\d\\)", "");
        for (String given : m.given()) {
            due(m.call() + " is given " + given, row.group(2).contains("`" + given + "`") ? 1 : 0, 1);
        }
        for (String why : List.of("BAD", "NO", "FULL")) {
            due(m.call() + " is refused by " + why, has(row.group(4), why), has(promise, why));
        }
        due(m.call() + " leaves a STATE", has(row.group(5), "S"), has(promise, "S"));
        due(m.call() + " answers NONE", has(row.group(2) + row.group(3), "NONE"), has(promise, "NONE"));
        Matcher number = Pattern.compile("-\\d{1,4}(?= less|\\b)").matcher(promise.replaceAll("BAD: -2 |-21 \\.\\. 21", ""));
        while (number.find()) {
            due(m.call() + " answers " + number.group(), row.group().contains(number.group()) ? 1 : 0, 1);
        }
    }

    private static int has(String text, String word) {
        return Pattern.compile("\\b" + word + "\\b").matcher(text).find() ? 1 : 0;
    }

    private static void constants(String readme, Face face) {
        says("the constants, what a refused call answers");
        List<String> told = new ArrayList<>();
        Matcher constant = CONSTANT.matcher(readme);
        while (constant.find()) {
            told.add(constant.group(1));
            due(constant.group(1), Integer.parseInt(constant.group(2)), face.constants.getOrDefault(constant.group(1), 0));
        }
        due("README.md tells of each: " + told, told.equals(List.copyOf(face.constants.keySet())) ? 1 : 0, 1);
    }

    // ---- how its tests are run

    private static void tests(String readme) throws IOException {
        says("README.md says how its tests are run");
        due(".ci/run", readme.contains("```\n.ci/run\n```") ? 1 : 0, 1);
        try (Stream<Path> files = Files.list(Path.of("src/test/java"))) {
            for (Path file : (Iterable<Path>) files::iterator) {
                String name = file.getFileName().toString().replace(".java", "");
                due("README.md tells of " + name, readme.contains("`" + name + "`") ? 1 : 0, 1);
            }
        }
    }
}
