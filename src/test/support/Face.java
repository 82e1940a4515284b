import java.io.IOException;
import java.nio.file.Files;
import java.nio.file.Path;
import java.util.ArrayList;
import java.util.LinkedHashMap;
import java.util.List;
import java.util.Map;
import java.util.regex.Matcher;
import java.util.regex.Pattern;

/** The public face as the code block of ../shared/DOC.md has it, and what its promises say of each method. */
final class Face {
    /** A method of the face: its type, its name, the names of what it is given (each an int). */
    record Method(String type, String name, List<String> given) {
        /** As a user writes it down: note(l, step, ticks). */
        String call() {
            return name + "(" + String.join(", ", given) + ")";
        }

        String declared() {
            return "public " + type + " " + signed();
        }

        /** As the heading of its promise has it. */
        String signed() {
            StringBuilder out = new StringBuilder(name).append('(');
            for (int i = 0; i < given.size(); i++) out.append(i == 0 ? "int " : ", int ").append(given.get(i));
            return out.append(')').toString();
        }
    }

    private final String document;
    final List<Method> methods = new ArrayList<>();
    final Map<String, Integer> constants = new LinkedHashMap<>();

    private Face(String document) {
        this.document = document;
        Matcher block = Pattern.compile("(?s)## The public face\n\n```java\n(.*?)```").matcher(document);
        if (!block.find()) throw new IllegalStateException("DOC.md has no public face");
        Matcher method = Pattern.compile("    public (int|long) (\\w+)\\((.*?)\\);").matcher(block.group(1));
        while (method.find()) methods.add(new Method(method.group(1), method.group(2), names(method.group(3))));
        Matcher constant = Pattern.compile("(\\w+) = (-\\d+)").matcher(block.group(1));
        while (constant.find()) constants.put(constant.group(1), Integer.parseInt(constant.group(2)));
    }

    static Face ofDocument() throws IOException {
        return new Face(Files.readString(Path.of("../shared/DOC.md")));
    }

    private static List<String> names(String parameters) {
        List<String> out = new ArrayList<>();
        for (String p : parameters.split(", ")) {
            if (!p.isEmpty()) out.add(p.replaceFirst("^int ", ""));
        }
        return out;
    }

    /** What the promise of a method says of it. */
    String promise(Method m) {
        String heading = "`" + m.type + " " + m.signed() + "`: ";
        int from = document.indexOf(heading);
        if (from < 0) throw new IllegalStateException("DOC.md promises nothing of " + m.signed());
        int begin = from + heading.length();
        return document.substring(begin, document.indexOf('\n', begin));
    }
}
