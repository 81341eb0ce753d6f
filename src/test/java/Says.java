import java.lang.annotation.ElementType;
import java.lang.annotation.Retention;
import java.lang.annotation.RetentionPolicy;
import java.lang.annotation.Target;

/** What a test is for: words of the document, just as they stand there. */
@Retention(RetentionPolicy.RUNTIME)
@Target(ElementType.METHOD)
@interface Says {
    /** The heading under which they stand, to its colon: a promise by its number, or Terms. */
    String of();

    String[] text();
}
