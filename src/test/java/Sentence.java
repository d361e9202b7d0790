import java.lang.annotation.ElementType;
import java.lang.annotation.Retention;
import java.lang.annotation.RetentionPolicy;
import java.lang.annotation.Target;

/** The words of the document that a test holds: it must fail if they are broken. */
@Retention(RetentionPolicy.RUNTIME)
@Target(ElementType.METHOD)
@interface Sentence {
    /** The heading in the document, up to a colon: "Terms", "Promise 3". */
    String of();

    /** The words themselves, as they stand there. */
    String says();
}
