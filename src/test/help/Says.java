import java.lang.annotation.Retention;
import java.lang.annotation.RetentionPolicy;

/** The sentence, of the document or of README.md, that a test is for. */
@Retention(RetentionPolicy.RUNTIME)
@interface Says {
    String value();
}
