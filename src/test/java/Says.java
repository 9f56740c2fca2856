import java.lang.annotation.Retention;
import java.lang.annotation.RetentionPolicy;

/**
 * The words of the document that the test would fail for, if they were broken; quoted with ' for its double quotes
 * and without its back quotes.
 */
@Retention(RetentionPolicy.RUNTIME)
@interface Says {
    /** The promise that says so, or 0 for the terms. */
    int promise() default 0;

    String[] value();
}
