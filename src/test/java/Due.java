import java.util.NoSuchElementException;
import java.util.Objects;
import java.util.function.Consumer;
import java.util.function.Supplier;

/** Compares answers with those that are due, and counts the wrong ones. */
final class Due {
    static final Class<IllegalArgumentException> ARGUMENT = IllegalArgumentException.class;
    static final Class<IllegalStateException> STATE = IllegalStateException.class;
    static final Class<NoSuchElementException> NO_ELEMENT = NoSuchElementException.class;

    private static int wrong = 0;
    private static int compared = 0;

    private Due() {
    }

    static void same(String call, Object got, Object want) {
        compared++;
        if (!Objects.equals(got, want)) {
            wrong++;
            System.out.println(call + " answered " + got + ", due is " + want);
        }
    }

    static void throwing(String call, Class<? extends RuntimeException> want, Supplier<Object> got) {
        Object answer;
        try {
            answer = got.get();
        } catch (RuntimeException e) {
            answer = e.getClass();
        }
        same(call, answer, want);
    }

    /** The call throws, and the object is then as one on which it was not called. */
    static void refused(String call, Class<? extends RuntimeException> want,
            Supplier<DivisorLockers> setUp, Consumer<DivisorLockers> action) {
        DivisorLockers touched = setUp.get();
        throwing(call, want, () -> {
            action.accept(touched);
            return "nothing thrown";
        });
        same("after " + call + " that throws: everything", Seen.of(touched), Seen.of(setUp.get()));
    }

    /** The call throws, and changes nothing, whatever the object was used for. */
    static void refusedAnywhere(String call, Class<? extends RuntimeException> want, Consumer<DivisorLockers> action) {
        refused(call + " on a new object", want, Made::fresh, action);
        refused(call + " on a used object", want, Made::used, action);
        refused(call + " on a full object", want, Made::full, action);
    }

    /** The call is a question: the object is afterwards as one on which it was not called. */
    static void asking(String call, Supplier<DivisorLockers> setUp, Consumer<DivisorLockers> action) {
        DivisorLockers touched = setUp.get();
        action.accept(touched);
        same("after " + call + ": everything", Seen.of(touched), Seen.of(setUp.get()));
    }

    static int wrong() {
        return wrong;
    }

    static int compared() {
        return compared;
    }

    static void end() {
        if (wrong == 0) {
            System.out.println(compared + " answers are as due");
        } else {
            System.out.println(wrong + " of " + compared + " answers are not as due");
            System.exit(1);
        }
    }
}
