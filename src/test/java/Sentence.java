import java.lang.annotation.ElementType;
import java.lang.annotation.Retention;
import java.lang.annotation.RetentionPolicy;
import java.lang.annotation.Target;

/** The sentence of the document that a boundary test holds the class to. */
@Retention(RetentionPolicy.RUNTIME)
@Target(ElementType.METHOD)
@interface Sentence {
    /** The promise's number; 0 stands for "Terms" and "What it is". */
    int promise() default 0;

    /** The sentence's own words, so that it can be found in the document. */
    String words();
}
