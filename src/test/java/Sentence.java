import java.lang.annotation.ElementType;
import java.lang.annotation.Retention;
import java.lang.annotation.RetentionPolicy;
import java.lang.annotation.Target;

/** Tells which words of the document a test is for. */
@Retention(RetentionPolicy.RUNTIME)
@Target(ElementType.METHOD)
@interface Sentence {
    /** The heading that the words stand under, up to its colon: "Promise 5", "Street". */
    String in();

    /** The words, as they stand there. */
    String[] says();
}
