import java.lang.annotation.Retention;
import java.lang.annotation.RetentionPolicy;

/**
 * On a test: the words of ../shared/DOC.md that it holds the class to.
 * On a class of tests: the heading under which those words stand.
 */
@Retention(RetentionPolicy.RUNTIME)
@interface Says {
    String value();
}
