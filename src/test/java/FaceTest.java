import java.lang.reflect.Constructor;
import java.lang.reflect.Field;
import java.lang.reflect.Member;
import java.lang.reflect.Method;
import java.lang.reflect.Modifier;
import java.util.Arrays;
import java.util.Set;
import java.util.TreeSet;
import java.util.stream.Collectors;
import java.util.stream.Stream;

/** The class has the document's face, and nothing else that is not private. */
public final class FaceTest {
    private static final String FACE = """
        int pass(int) IllegalArgumentException
        int passRow(int, int) IllegalArgumentException
        boolean turnDoor(int) IllegalArgumentException, IllegalStateException
        boolean turnLock(int) IllegalArgumentException
        boolean turnSkip(int) IllegalArgumentException
        int store(int, int) IllegalArgumentException, IllegalStateException
        int takeOut(int) IllegalArgumentException, IllegalStateException
        boolean isOpen(int) IllegalArgumentException
        boolean isLocked(int) IllegalArgumentException
        int turnsOf(int) IllegalArgumentException
        boolean isSkipped(int) IllegalArgumentException
        int timesOf(int) IllegalArgumentException
        int divisorsOf(int) IllegalArgumentException
        int openDoors()
        int openByTurns()
        long openSet()
        int nextOpen(int) IllegalArgumentException, NoSuchElementException
        long closingPasses()
        long closingByDivisors()
        int passesToClose()
        int wouldBeOpen(int, int) IllegalArgumentException
        int bestPass()
        int whyNot(int, int) IllegalArgumentException
        int thingAt(int) IllegalArgumentException, NoSuchElementException
        int thingsOf(int) IllegalArgumentException
        int shutAway()
        float share()
        int shareBits()
        float sumOfParts()
        long sumBits()
        int turnsInAll()
        int keep()
        int goBack() IllegalStateException
        int states()
        int undo() IllegalStateException
        int type(int) IllegalArgumentException, IllegalStateException
        int clearText()
        int faultPosition() NoSuchElementException
        int faultReason() NoSuchElementException
        int faultCause() NoSuchElementException
        int play() IllegalStateException
        """;

    public static void main(String[] args) {
        Class<DivisorLockers> face = DivisorLockers.class;
        Due.same("public and final", face.getModifiers(), Modifier.PUBLIC | Modifier.FINAL);
        Due.same("calls", calls(face), new TreeSet<>(FACE.lines().map(String::strip).toList()));
        Constructor<?>[] constructors = face.getDeclaredConstructors();
        Due.same("constructors", constructors.length, 1);
        Due.same("constructor", constructors[0].toString(), "public DivisorLockers()");
        Set<String> names = calls(face).stream().map(call -> call.replaceAll("^\\S+ |\\(.*", "")).collect(Collectors.toSet());
        allButTheFaceIsPrivate(face, names);
        for (Class<?> inner : face.getDeclaredClasses()) {
            Due.same(inner + " is private and static", Modifier.isPrivate(inner.getModifiers())
                    && Modifier.isStatic(inner.getModifiers()), true);
            Due.same(inner + " has few fields", Stream.of(inner.getDeclaredFields()).count() <= 20, true);
            noNameOfTheFace(inner, names);
        }
        Due.end();
    }

    private static Set<String> calls(Class<?> face) {
        Set<String> calls = new TreeSet<>();
        for (Method method : face.getDeclaredMethods()) {
            if (!Modifier.isPrivate(method.getModifiers())) {
                Due.same(method + " is public", method.getModifiers(), Modifier.PUBLIC);
                calls.add((method.getReturnType() + " " + method.getName() + "(" + names(method.getParameterTypes()) + ") "
                        + names(method.getExceptionTypes())).strip());
            }
        }
        return calls;
    }

    private static String names(Class<?>[] types) {
        return Arrays.stream(types).map(Class::getSimpleName).collect(Collectors.joining(", "));
    }

    private static void allButTheFaceIsPrivate(Class<?> face, Set<String> names) {
        for (Field field : face.getDeclaredFields()) {
            Due.same(field + " is private", Modifier.isPrivate(field.getModifiers()), true);
            Due.same(field + " is final, if static", Modifier.isFinal(field.getModifiers())
                    || !Modifier.isStatic(field.getModifiers()), true);
        }
        for (Method method : face.getDeclaredMethods()) {
            Member member = method;
            if (Modifier.isPrivate(member.getModifiers())) {
                Due.same(method + " has the name of a public one", names.contains(method.getName()), false);
            }
        }
    }

    private static void noNameOfTheFace(Class<?> inner, Set<String> names) {
        for (Method method : inner.getDeclaredMethods()) {
            Due.same(method + " has the name of a public one", names.contains(method.getName()), false);
        }
    }
}
