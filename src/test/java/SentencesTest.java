import java.io.IOException;
import java.lang.reflect.InvocationTargetException;
import java.lang.reflect.Method;
import java.nio.file.Path;
import java.util.ArrayList;
import java.util.Comparator;
import java.util.List;

/**
 * Sentence by sentence of the document: runs each test that names one, and sees to it that the words
 * stand there, and that no word of the TERMS and promises is left without a test.
 * With "list" as argument it tells which sentence has which test.
 */
public final class SentencesTest {
    private static final List<Class<? extends Sentences>> ALL = List.of(TextSentences.class, TermSentences.class,
        StatusSentences.class, TableSentences.class, ColouringSentences.class, BoundSentences.class,
        NetworkSentences.class, ActSentences.class, SizeSentences.class);

    private final Document document = new Document(Path.of("../shared/DOC.md"));
    private final boolean listing;
    private int passed = 0;
    private int failed = 0;
    private int looks = 0;

    private SentencesTest(boolean listing) throws IOException {
        this.listing = listing;
    }

    public static void main(String[] args) throws Exception {
        SentencesTest t = new SentencesTest(args.length > 0 && args[0].equals("list"));
        for (Method test : t.tests()) {
            t.run(test);
        }
        t.document.unquoted().forEach((part, rest) -> t.fail(part + " has words without a test: " + rest));
        System.out.println("SentencesTest: " + t.passed + " sentences hold (" + t.looks + " answers), "
            + t.failed + " failed");
        if (t.failed != 0) {
            System.exit(1);
        }
    }

    /** In the order of the document. */
    private List<Method> tests() {
        List<Method> found = new ArrayList<>();
        for (Class<? extends Sentences> one : ALL) {
            for (Method m : one.getDeclaredMethods()) {
                if (m.isAnnotationPresent(Sentence.class)) {
                    found.add(m);
                }
            }
        }
        found.sort(Comparator.<Method>comparingInt(m -> document.order(of(m)))
            .thenComparingInt(m -> document.place(of(m), says(m))).thenComparing(Method::getName));
        return found;
    }

    private static String of(Method test) {
        return test.getAnnotation(Sentence.class).of();
    }

    private static String says(Method test) {
        return test.getAnnotation(Sentence.class).says();
    }

    private void run(Method test) throws ReflectiveOperationException {
        String name = test.getDeclaringClass().getName() + "." + test.getName();
        String sentence = of(test) + ", \"" + says(test) + "\"";
        if (listing) {
            System.out.println(sentence + ": " + name);
        }
        int place = document.place(of(test), says(test));
        if (place < 0) {
            fail(name + ": " + sentence + (place == NONE ? " is not in the document" : " stands there more than once"));
            return;
        }
        document.quote(of(test), says(test));
        Sentences one = (Sentences) test.getDeclaringClass().getDeclaredConstructor().newInstance();
        try {
            test.setAccessible(true);
            test.invoke(one);
        } catch (InvocationTargetException e) {
            one.troubles.add("threw " + e.getCause());
        }
        if (one.looks == 0) {
            one.troubles.add("looks at nothing");
        }
        looks += one.looks;
        if (one.troubles.isEmpty()) {
            passed++;
        } else {
            fail(sentence + " does not hold: " + name + ", " + one.troubles.get(0) + (one.troubles.size() > 1
                ? " (and " + (one.troubles.size() - 1) + " more)" : ""));
        }
    }

    private static final int NONE = -1;

    private void fail(String what) {
        failed++;
        System.out.println("SentencesTest: " + what);
    }
}
