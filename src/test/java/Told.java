import java.lang.annotation.ElementType;
import java.lang.annotation.Retention;
import java.lang.annotation.RetentionPolicy;
import java.lang.annotation.Target;

/** Quotes the sentences of the document that a test is for; SentencesTest compares both. */
@Retention(RetentionPolicy.RUNTIME)
@Target(ElementType.METHOD)
@interface Told {
    /** The number of the promise, 0 for what stands ahead of the promises. */
    int promise() default 0;

    /** Whole sentences, or what stands between semicolons, without the sign at the end. */
    String[] value();
}
