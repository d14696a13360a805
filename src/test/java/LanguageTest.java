import java.io.IOException;
import java.nio.file.Files;
import java.nio.file.Path;
import java.util.ArrayList;
import java.util.List;
import java.util.regex.Matcher;
import java.util.regex.Pattern;

/** The rules of LANGUAGE.md that can be seen in the text of the class; run from the project's directory. */
public final class LanguageTest {
    private static final Path SOURCE = Path.of("src/main/java/DivisorLockers.java");
    private static final int LONGEST_METHOD = 60;
    private static final int MOST_PARAMETERS = 7;

    private static final String[] FORBIDDEN = {
        "->", "::", "\\btry\\b", "\\bcatch\\b", "\\bfinally\\b", "\\bsynchronized\\b", "\\bassert\\b", "\\bpackage\\b",
        "\\bFloat\\b", "\\bDouble\\b", "\\bSystem\\b", "\\bRandom\\b", "\\bThread\\b", "\\bMath\\.\\w*Exact",
        "\\bObject\\b", "\\bprotected\\b", "\\bequals\\b", "\\bhashCode\\b", "\\btoString\\b", "static \\{",
        "\\bLong\\.(?!bitCount\\b)", "\\bInteger\\b", "\\bMath\\b", "@", "\\bwhile *\\(true\\)", "for *\\(;;", "\"\"\"",
    };

    public static void main(String[] args) throws IOException {
        String source = Files.readString(SOURCE);
        for (int place = 0; place < source.length(); place++) {
            char sign = source.charAt(place);
            Due.same("sign at " + place, sign == '\n' || sign >= ' ' && sign <= '~', true);
        }
        String code = withoutComments(source);
        for (String word : FORBIDDEN) {
            Matcher found = Pattern.compile(word).matcher(code);
            Due.same("found " + word, found.find() ? found.group() : null, null);
        }
        Due.same("imports", lines(code, "import .*"), List.of("import java.util.NoSuchElementException;"));
        thrown(code);
        divisors(code);
        methods(code);
        Due.end();
    }

    private static String withoutComments(String source) {
        return Pattern.compile("/\\*.*?\\*/", Pattern.DOTALL).matcher(source).replaceAll("").replaceAll("//[^\n]*", "");
    }

    private static List<String> lines(String code, String form) {
        return code.lines().map(String::strip).filter(line -> line.matches(form)).toList();
    }

    private static void thrown(String code) {
        for (String line : lines(code, ".*\\bthrow\\b.*")) {
            Due.same(line, line.matches("throw new (IllegalArgument|IllegalState|NoSuchElement)Exception"
                    + "\\(\"[a-z ]+\"\\);"), true);
        }
        for (String line : lines(code, ".*\\+ *\".*|.*\" *\\+.*")) {
            Due.same("texts joined by +", line, null);
        }
    }

    /** A whole number is divided in few places; each of them is looked at here by hand. */
    private static void divisors(String code) {
        Due.same("divisions", lines(code, ".*[^/]/[^/].*|.* %.*"), List.of(
                "return (float) Long.bitCount(now.open) / (float) DOORS;",
                "sum += 1f / (float) door;",
                "sum += 1d / (double) door;",
                "return divisor > 0 && number % divisor == 0;",
                "return number > 0 ? DOORS / number : 0;",
                "if (contains(now.open, door) && divides(door, number) && isSquareFree(number / door)) {",
                "part /= 2d;"));
    }

    private static void methods(String code) {
        Pattern head = Pattern.compile("^( +)((public|private|static|final) )*[\\w\\[\\]]+ ?\\w*\\(([^()]*)\\)[^;={}]*\\{$");
        List<String> all = new ArrayList<>(code.lines().toList());
        for (int line = 0; line < all.size(); line++) {
            Matcher method = head.matcher(all.get(line));
            if (!method.matches() || all.get(line).matches(" +(if|for|while|switch|else)\\b.*")) {
                continue;
            }
            int parameters = method.group(4).isBlank() ? 0 : method.group(4).split(",").length;
            Due.same(all.get(line) + " takes few parameters", parameters <= MOST_PARAMETERS, true);
            int end = all.subList(line, all.size()).indexOf(method.group(1) + "}");
            Due.same(all.get(line) + " is short", end > 0 && end <= LONGEST_METHOD, true);
        }
    }
}
