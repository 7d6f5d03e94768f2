import java.lang.annotation.ElementType;
import java.lang.annotation.Retention;
import java.lang.annotation.RetentionPolicy;
import java.lang.annotation.Target;

/** The sentence of ../shared/DOC.md, in its own words, that a test holds the class against. */
@Retention(RetentionPolicy.RUNTIME)
@Target(ElementType.METHOD)
@interface Sentence {
    /** The promise that the sentence stands in or, if it stands under "Terms", that uses it; 0: all of them. */
    int promise();

    String says();
}
