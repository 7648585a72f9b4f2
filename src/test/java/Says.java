import java.lang.annotation.Retention;
import java.lang.annotation.RetentionPolicy;

/** The words of the document that a test holds: of a promise by its number, of the Terms without one. */
@Retention(RetentionPolicy.RUNTIME)
@interface Says {
    int promise() default 0;

    String value();
}
