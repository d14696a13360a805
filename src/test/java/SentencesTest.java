import java.lang.reflect.InvocationTargetException;
import java.lang.reflect.Method;
import java.lang.reflect.Modifier;
import java.nio.file.Path;
import java.util.Arrays;
import java.util.Comparator;
import java.util.List;

/** Runs a test for each sentence of the document, and sees that the document has it and that none is left out. */
public final class SentencesTest {
    private static final Path DOCUMENT = Path.of("../shared/DOC.md");
    private static final int PROMISES = 42;
    private static final List<Class<?>> TESTS = List.of(TermsSentences.class, ThingTermsSentences.class,
            TextTermsSentences.class, ChangeTermsSentences.class, ChangesSentences.class, DoorsSentences.class,
            ClosingSentences.class, ThingsSentences.class, SharesSentences.class, TextsSentences.class);

    public static void main(String[] args) throws Exception {
        Document document = Document.read(DOCUMENT);
        for (int number = 1; number <= PROMISES; number++) {
            Due.same("the document has promise " + number, document.has("Promise " + number), true);
        }
        Due.same("the document has one promise more", document.has("Promise " + (PROMISES + 1)), false);
        int sentences = 0;
        for (Class<?> tests : TESTS) {
            for (Method test : testsOf(tests)) {
                run(test, document);
                sentences++;
            }
        }
        Due.same("words of the document without a test", document.unquoted(), List.of());
        System.out.println(sentences + " sentences tested");
        Due.end();
    }

    private static List<Method> testsOf(Class<?> tests) {
        return Arrays.stream(tests.getDeclaredMethods())
                .filter(method -> !Modifier.isPrivate(method.getModifiers()) && !method.isSynthetic())
                .sorted(Comparator.comparing(Method::getName)).toList();
    }

    private static void run(Method test, Document document) throws IllegalAccessException {
        String name = test.getDeclaringClass().getName() + "." + test.getName();
        Sentence sentence = test.getAnnotation(Sentence.class);
        if (sentence == null) {
            Due.same(name, "names no sentence", "names one");
            return;
        }
        Due.same(name + ": \"" + sentence.says() + "\" is in " + sentence.of(),
                document.quote(sentence.of(), sentence.says()), true);
        int wrong = Due.wrong();
        int compared = Due.compared();
        try {
            test.invoke(null);
        } catch (InvocationTargetException e) {
            Due.same(name, e.getCause(), "ended");
        }
        Due.same(name + " compares something", Due.compared() > compared, true);
        if (Due.wrong() > wrong) {
            System.out.println("-- " + name + ": " + sentence.of() + " doesn't hold: " + sentence.says());
        }
    }
}
