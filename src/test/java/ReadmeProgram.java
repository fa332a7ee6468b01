import java.io.IOException;
import java.lang.reflect.Method;
import java.lang.reflect.Modifier;
import java.nio.file.Files;
import java.nio.file.Path;
import java.util.ArrayList;
import java.util.List;
import java.util.Set;
import java.util.TreeSet;
import java.util.regex.Matcher;
import java.util.regex.Pattern;

/**
 * Makes a program of the examples in README.md, in which the number behind // is the answer that is due, and
 * writes it to the file that its argument names. It fails if an example shows a call without its answer, or
 * if a call of the face is shown nowhere.
 */
public final class ReadmeProgram {
    private static final Pattern SHOWN = Pattern.compile("((?:x\\.\\w+|load)\\(.*\\)); +// (-?\\d+)\\b.*");
    private static final Pattern TEXT_OF_FEEDS = Pattern.compile("// \"(.*)\", with 0 behind it");
    private static final Pattern NAME = Pattern.compile("x\\.(\\w+)\\(");

    private final StringBuilder examples = new StringBuilder();
    private final StringBuilder functions = new StringBuilder();
    private final Set<String> shown = new TreeSet<>();
    private final List<String> troubles = new ArrayList<>();
    private String text = "";
    private int blocks = 0;

    public static void main(String[] args) throws IOException {
        ReadmeProgram p = new ReadmeProgram();
        p.read(Files.readAllLines(Path.of("README.md")));
        p.missing();
        p.troubles.forEach(trouble -> System.out.println("README.md: " + trouble));
        if (!p.troubles.isEmpty() || args.length == 0) {
            System.exit(1);
        }
        Path file = Path.of(args[0]);
        Files.createDirectories(file.toAbsolutePath().getParent());
        Files.writeString(file, p.program(file.getFileName().toString().replace(".java", "")));
    }

    private void read(List<String> lines) {
        int from = -1;
        for (int i = 0; i < lines.size(); i++) {
            if (lines.get(i).equals("```java")) {
                from = i + 1;
            } else if (lines.get(i).equals("```") && from >= 0) {
                block(lines, from, i);
                from = -1;
            }
        }
    }

    private void block(List<String> lines, int from, int to) {
        if (lines.get(from).startsWith("static ")) {
            lines.subList(from, to).forEach(line -> functions.append("    ").append(line).append('\n'));
            return;
        }
        blocks++;
        examples.append("    private static void example").append(blocks).append("() {\n");
        for (int i = from; i < to; i++) {
            examples.append("        ").append(statement(lines.get(i), i + 1)).append('\n');
        }
        examples.append("    }\n\n");
    }

    private String statement(String line, int number) {
        Matcher told = TEXT_OF_FEEDS.matcher(line);
        text = told.matches() ? told.group(1) : text;
        Matcher call = SHOWN.matcher(line);
        if (!call.matches()) {
            if (line.contains("x.") || line.contains("load(")) {
                troubles.add("line " + number + " shows no answer: " + line);
            }
            return line;
        }
        Matcher name = NAME.matcher(call.group(1));
        shown.add(name.lookingAt() ? name.group(1) : "load");
        String what = "\"README.md, line " + number + ": " + call.group(1).replace("\"", "'") + "\"";
        if (call.group(1).startsWith("x.feed")) {
            fed(call.group(1), number);
        }
        return "CHECK.due(" + what + ", " + call.group(1) + ", " + call.group(2) + ");";
    }

    /** A call of feed() in an example has the next bytes of the text told above it. */
    private void fed(String feed, int number) {
        String[] bytes = feed.replace("x.feed(", "").replace(")", "").split(", ");
        for (int i = 0; i < bytes.length; i++) {
            if (Check.four(text, 4 * i) != Integer.parseInt(bytes[i])) {
                troubles.add("line " + number + " feeds other bytes than those of the text: " + bytes[i]);
            }
        }
        text = text.substring(Math.min(20, text.length()));
    }

    private void missing() {
        for (Method m : HatNet.class.getDeclaredMethods()) {
            if (Modifier.isPublic(m.getModifiers()) && !shown.contains(m.getName())) {
                troubles.add("no example of " + m.getName());
            }
        }
    }

    private String program(String name) {
        StringBuilder b = new StringBuilder("public final class " + name + " {\n"
            + "    private static final Check CHECK = new Check(\"" + name + "\");\n\n" + examples + functions
            + "\n    public static void main(String[] args) {\n");
        for (int i = 1; i <= blocks; i++) {
            b.append("        example").append(i).append("();\n");
        }
        return b.append("        CHECK.end();\n    }\n}\n").toString();
    }
}
