import java.lang.annotation.ElementType;
import java.lang.annotation.Retention;
import java.lang.annotation.RetentionPolicy;
import java.lang.annotation.Target;

/** The sentence of the document that a test is of: the part in which it stands, and its own words. */
@Retention(RetentionPolicy.RUNTIME)
@Target(ElementType.METHOD)
public @interface Sentence {
    /** "Terms 1" to "Terms 3", "Promise 1" to "Promise 58", or "What it is". */
    String of();

    /** Words that stand in that part just once, blanks and new lines all as one blank. */
    String says();
}
