import java.lang.annotation.ElementType;
import java.lang.annotation.Retention;
import java.lang.annotation.RetentionPolicy;
import java.lang.annotation.Target;

/** The words of the document that a test is about. */
@Retention(RetentionPolicy.RUNTIME)
@Target(ElementType.METHOD)
@interface Says {
    /** The words, as they stand there. */
    String value();

    /** The number of their promise, or 0 for what stands ahead of the promises. */
    int of() default 0;
}
