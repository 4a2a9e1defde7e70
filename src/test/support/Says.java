import java.lang.annotation.Retention;
import java.lang.annotation.RetentionPolicy;

/** The words of the document that a boundary test holds the class to. */
@Retention(RetentionPolicy.RUNTIME)
@interface Says {
    String[] value();
}
