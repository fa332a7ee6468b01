import java.io.DataInputStream;
import java.io.IOException;
import java.io.InputStream;
import java.util.ArrayList;
import java.util.HashMap;
import java.util.List;
import java.util.Map;
import java.util.Set;
import java.util.TreeSet;

/**
 * What the compiled class shows of the rules of the language, where a scan of the source would miss it: the
 * library it uses, how deep its calls go, that nothing is thrown, and that no call makes an object or an array.
 */
public final class ClassFileTest {
    private static final Set<String> LIBRARY = Set.of("java/lang/Object.<init>", "java/lang/String.length",
        "java/lang/String.charAt", "java/lang/System.arraycopy", "java/lang/Math.max", "java/lang/Math.min",
        "java/lang/Math.abs", "java/lang/Math.floorMod", "java/lang/Math.floorDiv", "java/lang/Integer.bitCount",
        "java/lang/Integer.numberOfTrailingZeros", "java/lang/Long.bitCount");
    private static final int DEEPEST = 8;

    private final Check check = new Check("ClassFileTest");
    /** By method: the methods that it calls. */
    private final Map<String, Set<String>> calls = new HashMap<>();
    private String[] pool = new String[0];
    private String owner = "";

    public static void main(String[] args) throws IOException {
        ClassFileTest t = new ClassFileTest();
        List<Class<?>> all = new ArrayList<>(List.of(HatNet.class.getDeclaredClasses()));
        all.add(HatNet.class);
        for (Class<?> one : all) {
            t.read(one.getName());
        }
        t.depths();
        t.check.end();
    }

    private void read(String name) throws IOException {
        owner = name;
        try (InputStream file = HatNet.class.getResourceAsStream("/" + name + ".class");
            DataInputStream in = new DataInputStream(file)) {
            in.skipBytes(8);
            readPool(in);
            in.skipBytes(6);
            in.skipBytes(2 * in.readUnsignedShort());
            members(in, false);
            members(in, true);
        }
    }

    /** References to members become "owner.name", all else its text, or nothing. */
    private void readPool(DataInputStream in) throws IOException {
        int size = in.readUnsignedShort();
        pool = new String[size];
        int[][] parts = new int[size][];
        int[] kind = new int[size];
        for (int i = 1; i < size; i++) {
            kind[i] = in.readUnsignedByte();
            switch (kind[i]) {
                case 1 -> pool[i] = in.readUTF();
                case 7, 8 -> parts[i] = new int[] {in.readUnsignedShort()};
                case 9, 10, 11, 12 -> parts[i] = new int[] {in.readUnsignedShort(), in.readUnsignedShort()};
                case 3, 4 -> in.skipBytes(4);
                case 5, 6 -> {
                    in.skipBytes(8);
                    i++;
                }
                default -> throw new IOException(owner + ": lambdas, references to methods, or texts joined by +");
            }
        }
        // A name and its type ahead of what is made of them.
        resolve(kind, parts, Set.of(7, 8, 12));
        resolve(kind, parts, Set.of(9, 10, 11));
    }

    private void resolve(int[] kind, int[][] parts, Set<Integer> wanted) {
        for (int i = 1; i < kind.length; i++) {
            if (wanted.contains(kind[i])) {
                String member = wanted.contains(9) ? "." + pool[parts[i][1]] : "";
                pool[i] = pool[parts[i][0]] + member;
            }
        }
    }

    private void members(DataInputStream in, boolean methods) throws IOException {
        int many = in.readUnsignedShort();
        for (int i = 0; i < many; i++) {
            in.readUnsignedShort();
            String name = owner + "." + pool[in.readUnsignedShort()];
            in.readUnsignedShort();
            int attributes = in.readUnsignedShort();
            for (int a = 0; a < attributes; a++) {
                String attribute = pool[in.readUnsignedShort()];
                byte[] bytes = new byte[in.readInt()];
                in.readFully(bytes);
                if (methods && attribute.equals("Code")) {
                    code(name, bytes);
                }
            }
        }
    }

    private static int two(byte[] b, int at) {
        return (b[at] & 255) << 8 | b[at + 1] & 255;
    }

    private static int four(byte[] b, int at) {
        return two(b, at) << 16 | two(b, at + 2);
    }

    private void code(String method, byte[] b) {
        boolean makes = method.endsWith(".<init>") || method.endsWith(".<clinit>");
        int length = four(b, 4);
        check.due(method + " catches", two(b, 8 + length), 0);
        Set<String> called = calls.computeIfAbsent(method, m -> new TreeSet<>());
        int at = 8;
        while (at < 8 + length) {
            int op = b[at] & 255;
            check.due(method + " throws", op == 191 ? 1 : 0, 0);
            check.due(method + " makes something behind the constructor", !makes && (op == 187 || op == 188
                || op == 189 || op == 197) ? 1 : 0, 0);
            if (op >= 182 && op <= 186) {
                call(method, pool[two(b, at + 1)], called);
            }
            if (op >= 178 && op <= 181) {
                String field = pool[two(b, at + 1)];
                check.due(method + " uses " + field, field.startsWith("HatNet") ? 1 : 0, 1);
            }
            at += size(b, at, op);
        }
    }

    private void call(String method, String target, Set<String> called) {
        if (target.startsWith("HatNet")) {
            called.add(target);
        } else {
            check.due(method + " calls " + target, LIBRARY.contains(target) ? 1 : 0, 1);
        }
    }

    private static int size(byte[] b, int at, int op) {
        if (op == 170 || op == 171) {
            int from = at + 1 + (3 - (at - 8) % 4);
            return from - at + (op == 171 ? 8 + 8 * four(b, from + 4)
                : 12 + 4 * (four(b, from + 8) - four(b, from + 4) + 1));
        }
        if (op == 196) {
            return (b[at + 1] & 255) == 132 ? 6 : 4;
        }
        if (op == 185 || op == 186 || op == 200 || op == 201) {
            return 5;
        }
        if (op == 197) {
            return 4;
        }
        boolean three = op == 17 || op == 19 || op == 20 || op == 132 || op >= 153 && op <= 168 || op >= 178 && op <= 184
            || op == 187 || op == 189 || op == 192 || op == 193 || op == 198 || op == 199;
        boolean two = op == 16 || op == 18 || op >= 21 && op <= 25 || op >= 54 && op <= 58 || op == 169 || op == 188;
        return three ? 3 : two ? 2 : 1;
    }

    /** Each method of the face with all that it calls: no method comes twice, and they are eight at most. */
    private void depths() {
        int deepest = 0;
        for (String method : calls.keySet()) {
            if (method.startsWith("HatNet.")) {
                deepest = Math.max(deepest, depth(method, new ArrayList<>()));
            }
        }
        check.due("some methods were read", calls.size() > 100 ? 1 : 0, 1);
        check.due("calls " + deepest + " deep", deepest >= 5 && deepest <= DEEPEST ? 1 : 0, 1);
    }

    private int depth(String method, List<String> open) {
        check.due(method + " calls itself", open.contains(method) ? 1 : 0, 0);
        if (open.contains(method) || open.size() > 20) {
            return 0;
        }
        open.add(method);
        int most = 0;
        for (String called : calls.getOrDefault(method, Set.of())) {
            most = Math.max(most, depth(called, open));
        }
        open.remove(open.size() - 1);
        return most + 1;
    }
}
