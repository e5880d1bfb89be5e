import java.lang.annotation.ElementType;
import java.lang.annotation.Retention;
import java.lang.annotation.RetentionPolicy;
import java.lang.annotation.Target;

/** The words of the document that a test would see broken. */
@Retention(RetentionPolicy.RUNTIME)
@Target(ElementType.METHOD)
@interface Says {
    /** Words of the promise by whose number the test is named. */
    String[] value() default {};

    /** Words of "Terms". */
    String[] terms() default {};
}
