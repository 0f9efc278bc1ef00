import java.lang.annotation.ElementType;
import java.lang.annotation.Retention;
import java.lang.annotation.RetentionPolicy;
import java.lang.annotation.Target;

/** The words of the document that a test would see broken; SentencesTest holds them against the document. */
@Retention(RetentionPolicy.RUNTIME)
@Target(ElementType.METHOD)
@interface Says {
    /** The number of the promise; 0 for the words before the promises. */
    int promise();

    /** As in the document, without its signs of code. */
    String[] words();
}
