import java.lang.annotation.ElementType;
import java.lang.annotation.Retention;
import java.lang.annotation.RetentionPolicy;
import java.lang.annotation.Target;

/** Says which words of the document a test holds; SentencesTest runs it and looks the words up. */
@Retention(RetentionPolicy.RUNTIME)
@Target(ElementType.METHOD)
@interface Sentence {
    /** The heading of the section: "Promise 2", "Things". */
    String of();

    String says();
}
