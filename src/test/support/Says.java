import java.lang.annotation.Retention;
import java.lang.annotation.RetentionPolicy;

/** The sentence of the document that a test is for: its words, and the part of "Terms" or the promise they stand in (neither: elsewhere). */
@Retention(RetentionPolicy.RUNTIME)
@interface Says {
    int terms() default 0;

    int promise() default 0;

    String words();
}
