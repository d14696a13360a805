import java.io.IOException;
import java.lang.reflect.InvocationTargetException;
import java.lang.reflect.Method;
import java.lang.reflect.Modifier;
import java.nio.file.Files;
import java.nio.file.Path;
import java.util.Arrays;
import java.util.List;
import java.util.Map;
import java.util.Set;
import java.util.TreeMap;
import java.util.TreeSet;
import java.util.function.Predicate;
import java.util.regex.Matcher;
import java.util.regex.Pattern;
import java.util.stream.Collectors;
import java.util.stream.Stream;

/** README.md says of the class what is so; run from the project's directory. */
public final class ReadmeTest {
    private static final Path README = Path.of("README.md");
    private static final Path TESTS = Path.of("src/test/java");
    private static final int LINES_WITH_AN_ANSWER = 12;

    private static final Pattern CALL = Pattern.compile("lockers\\.(\\w+)\\(([-\\d, ]*)\\); +// (throws )?(\\w+)\\b.*");
    private static final Pattern TYPED = Pattern.compile("for \\(char sign : \"(.*)\"\\.toCharArray\\(\\)\\) \\{");
    private static final Pattern NAME = Pattern.compile("`(\\w+)`");

    private static final Map<String, Method> FACE = new TreeMap<>();

    public static void main(String[] args) throws IOException {
        for (Method method : DivisorLockers.class.getDeclaredMethods()) {
            if (Modifier.isPublic(method.getModifiers())) {
                FACE.put(method.getName(), method);
            }
        }
        List<String> lines = Files.readAllLines(README);
        example(between(lines, "```java", "```"));
        calls(between(lines, "| What for |", ""));
        exceptions(between(lines, "| Exception |", ""));
        tests(between(lines, "| Test |", ""));
        Due.end();
    }

    private static List<String> between(List<String> lines, String head, String end) {
        return lines.stream().dropWhile(line -> !line.startsWith(head)).skip(1).takeWhile(line -> !line.equals(end)).toList();
    }

    /** A line that answers tells the answer, or the exception, first in its comment. */
    private static void example(List<String> lines) {
        Due.same("the example begins with", lines.isEmpty() ? "" : lines.get(0), "DivisorLockers lockers = new DivisorLockers();");
        int answers = 0;
        for (int place = 0; place < lines.size(); place++) {
            Matcher call = CALL.matcher(lines.get(place));
            if (call.matches()) {
                List<String> before = lines.subList(0, place);
                DivisorLockers touched = behind(before);
                Due.same(call.group(), answer(touched, call), call.group(4));
                if (call.group(3) != null) {
                    Due.same("after " + call.group() + ": everything", Seen.of(touched), Seen.of(behind(before)));
                }
                answers++;
            }
        }
        Due.same("lines of the example with an answer", answers, LINES_WITH_AN_ANSWER);
    }

    /** An object of its own for each look, as Seen takes most of the calls that an object is for. */
    private static DivisorLockers behind(List<String> lines) {
        DivisorLockers lockers = new DivisorLockers();
        for (String line : lines) {
            Matcher typed = TYPED.matcher(line);
            Matcher call = CALL.matcher(line);
            if (typed.matches()) {
                Made.text(lockers, typed.group(1));
            } else if (call.matches()) {
                answer(lockers, call);
            }
        }
        return lockers;
    }

    private static String answer(DivisorLockers lockers, Matcher call) {
        Object[] numbers = Stream.of(call.group(2).split(", *")).filter(Predicate.not(String::isEmpty))
                .map(Integer::valueOf).toArray();
        try {
            return String.valueOf(FACE.get(call.group(1)).invoke(lockers, numbers));
        } catch (InvocationTargetException e) {
            return e.getCause().getClass().getSimpleName();
        } catch (IllegalAccessException e) {
            return "not to be called";
        }
    }

    private static void calls(List<String> rows) throws IOException {
        List<String> named = rows.stream().flatMap(row -> names(row).stream()).toList();
        Due.same("the calls listed, none twice", named.size(), FACE.size());
        Due.same("the calls listed", new TreeSet<>(named), FACE.keySet());
        for (String row : rows.subList(1, rows.size())) {
            String group = row.split("\\|")[1].strip();
            String heads = Files.readAllLines(Path.of("../shared/DOC.md")).stream()
                    .filter(line -> line.endsWith("the interface says: ---- " + group + ".")).collect(Collectors.joining());
            Due.same("the calls for " + group, names(row), names(heads));
        }
    }

    private static void exceptions(List<String> rows) {
        Due.same("the exceptions told", rows.size(), 4);
        Due.same("calls that take an argument", throwing("IllegalArgumentException"),
                FACE.values().stream().filter(method -> method.getParameterCount() > 0).map(Method::getName).collect(Collectors.toSet()));
        Due.same("told of them", rows.get(1).endsWith("| each call that takes an argument |"), true);
        for (String row : rows.subList(2, rows.size())) {
            String exception = row.split("\\|")[1].strip();
            // A name in brackets is no call that throws, but one that tells more.
            Due.same("calls that throw " + exception, Set.copyOf(names(row.replaceAll("\\([^)]*\\)", ""))), throwing(exception));
        }
    }

    private static Set<String> throwing(String exception) {
        return FACE.values().stream().filter(method -> Arrays.stream(method.getExceptionTypes())
                .anyMatch(type -> type.getSimpleName().equals(exception))).map(Method::getName).collect(Collectors.toSet());
    }

    private static void tests(List<String> rows) throws IOException {
        Set<String> told = rows.stream().skip(1).map(row -> names(row).get(0)).collect(Collectors.toCollection(TreeSet::new));
        try (Stream<Path> files = Files.list(TESTS)) {
            Due.same("the tests listed", told, files.map(file -> file.getFileName().toString())
                    .filter(name -> name.endsWith("Test.java")).map(name -> name.replace(".java", ""))
                    .collect(Collectors.toCollection(TreeSet::new)));
        }
    }

    private static List<String> names(String text) {
        return NAME.matcher(text).results().map(found -> found.group(1)).toList();
    }
}
