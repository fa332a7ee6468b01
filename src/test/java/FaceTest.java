import java.io.IOException;
import java.lang.reflect.Constructor;
import java.lang.reflect.Field;
import java.lang.reflect.Method;
import java.lang.reflect.Modifier;
import java.nio.file.Files;
import java.nio.file.Path;
import java.util.Set;
import java.util.TreeSet;
import java.util.regex.Matcher;
import java.util.regex.Pattern;

/** The class has the document's face and no other, and its file keeps to the rules that a scan can see. */
public final class FaceTest {
    private static final Path SOURCE = Path.of("src/main/java/HatNet.java");
    private static final Path DOCUMENT = Path.of("../shared/DOC.md");

    private final Check check = new Check("FaceTest");

    public static void main(String[] args) throws IOException {
        FaceTest t = new FaceTest();
        t.face();
        t.names();
        t.words();
        t.lengths();
        t.check.end();
    }

    private static String outside(int modifiers) {
        return Modifier.isPrivate(modifiers) ? "" : Modifier.isPublic(modifiers) ? "public" : "other";
    }

    private void face() throws IOException {
        Set<String> due = new TreeSet<>();
        Matcher m = Pattern.compile("    public int (\\w+)\\(([^)]*)\\);").matcher(Files.readString(DOCUMENT));
        while (m.find()) {
            StringBuilder types = new StringBuilder();
            for (String argument : m.group(2).split(", ")) {
                types.append(argument.split(" ")[0]).append(' ');
            }
            due.add(m.group(1) + " " + types.toString().trim());
        }
        check.due("methods of the document", due.size(), 57);
        Set<String> found = new TreeSet<>();
        for (Method method : HatNet.class.getDeclaredMethods()) {
            if (!Modifier.isPrivate(method.getModifiers()) && !method.isSynthetic()) {
                StringBuilder types = new StringBuilder();
                for (Class<?> type : method.getParameterTypes()) {
                    types.append(type.getName()).append(' ');
                }
                found.add(method.getName() + " " + types.toString().trim());
                check.due(method.getName() + " is public", method.getModifiers(), Modifier.PUBLIC);
                check.due(method.getName() + " gives an int", method.getReturnType() == int.class ? 1 : 0, 1);
            }
        }
        check.due("the same methods: " + found, found.equals(due) ? 1 : 0, 1);
        check.due("the class", HatNet.class.getModifiers(), Modifier.PUBLIC | Modifier.FINAL);
        Constructor<?>[] makers = HatNet.class.getDeclaredConstructors();
        check.due("constructors", makers.length, 1);
        check.due("arguments", makers[0].getParameterCount(), 0);
        for (Field field : HatNet.class.getDeclaredFields()) {
            boolean none = field.getName().equals("NONE");
            check.due("field " + field.getName(), outside(field.getModifiers()).equals(none ? "public" : "") ? 1 : 0, 1);
        }
        check.due("NONE", HatNet.NONE, -1);
    }

    private void names() {
        Set<String> face = new TreeSet<>();
        for (Method method : HatNet.class.getDeclaredMethods()) {
            if (Modifier.isPublic(method.getModifiers())) {
                face.add(method.getName());
            }
        }
        Class<?>[] inside = HatNet.class.getDeclaredClasses();
        check.due("at most twelve classes", inside.length < 12 ? 1 : 0, 1);
        names(HatNet.class, face);
        for (Class<?> one : inside) {
            check.due(one.getName() + " is static", Modifier.isStatic(one.getModifiers()) ? 1 : 0, 1);
            check.due(one.getName() + " is not public", Modifier.isPublic(one.getModifiers()) ? 1 : 0, 0);
            names(one, face);
        }
    }

    private void names(Class<?> one, Set<String> face) {
        int fields = 0;
        for (Field field : one.getDeclaredFields()) {
            boolean constant = Modifier.isStatic(field.getModifiers());
            check.due(field + " is final, if static", !constant || Modifier.isFinal(field.getModifiers()) ? 1 : 0, 1);
            fields += constant ? 0 : 1;
        }
        check.due(one.getName() + " has at most twenty fields", fields <= 20 ? 1 : 0, 1);
        for (Method method : one.getDeclaredMethods()) {
            boolean clash = Modifier.isPrivate(method.getModifiers()) && face.contains(method.getName());
            check.due(method + " bears another name", clash ? 1 : 0, 0);
            check.due(method + " takes at most seven", method.getParameterCount() <= 7 ? 1 : 0, 1);
        }
    }

    private void words() throws IOException {
        String source = Files.readString(SOURCE).replaceAll("(?s)/\\*.*?\\*/", "").replaceAll("//[^\n]*", "");
        String[] banned = {"throw", "try", "catch", "synchronized", "assert", "import", "package", "->", "::",
            "instanceof", "volatile", "transient", "native", "Exact", "System\\.(?!arraycopy)", "Object", "var"};
        for (String word : banned) {
            boolean plain = Character.isLetter(word.charAt(0)) && Character.isLetter(word.charAt(word.length() - 1))
                && !word.equals("Exact");
            Matcher m = Pattern.compile(plain ? "\\b" + word + "\\b" : word).matcher(source);
            check.due("no " + word, m.find() ? 1 : 0, 0);
        }
        check.due("no sign above 127", source.chars().allMatch(c -> c < 127) ? 1 : 0, 1);
    }

    private void lengths() throws IOException {
        int begun = 0;
        int number = 0;
        for (String line : Files.readAllLines(SOURCE)) {
            number++;
            check.due("line " + number + " is short", line.length() <= 110 ? 1 : 0, 1);
            if (line.matches("( {4}| {8})\\w.*\\) \\{")) {
                begun = number;
            }
            if (line.matches(" {4}\\}| {8}\\}") && begun > 0) {
                check.due("the method at line " + begun + " is short", number - begun <= 60 ? 1 : 0, 1);
            }
        }
    }
}
