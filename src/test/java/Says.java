import java.lang.annotation.ElementType;
import java.lang.annotation.Retention;
import java.lang.annotation.RetentionPolicy;
import java.lang.annotation.Target;

/**
 * The words of the document to which a test holds. In front may stand the number of a call (as 108:) or of a promise
 * (as P6:): then the words stand in that call's line, or under that promise. SentencesTest looks all of them up.
 */
@Retention(RetentionPolicy.RUNTIME)
@Target(ElementType.METHOD)
@interface Says {
    String[] value();
}
