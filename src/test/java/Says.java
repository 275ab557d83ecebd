import java.lang.annotation.ElementType;
import java.lang.annotation.Retention;
import java.lang.annotation.RetentionPolicy;
import java.lang.annotation.Target;

/**
 * Which sentences of the document a test is for, in the document's own words: "8: .." stands in promise 8, "T: .." under
 * Terms. SaysTest looks whether they stand there, and whether a sentence that names an edge has been left out.
 */
@Retention(RetentionPolicy.RUNTIME)
@Target(ElementType.METHOD)
@interface Says {
    String[] value();
}
