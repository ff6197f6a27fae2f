import java.lang.annotation.Retention;
import java.lang.annotation.RetentionPolicy;

/**
 * The sentences of the document, word for word, that a test is for; the promise 0 stands for the "Terms", and -1 for
 * "What it is".
 */
@Retention(RetentionPolicy.RUNTIME)
@interface Says {
    int promise() default 0;

    String[] value();
}
