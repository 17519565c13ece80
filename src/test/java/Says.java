import java.lang.annotation.Retention;
import java.lang.annotation.RetentionPolicy;

/**
 * Names the words of the document that a test holds the program to, and the promise that they belong
 * to or that rests on them; 0 for what is said of the whole class.
 */
@Retention(RetentionPolicy.RUNTIME)
@interface Says {
    int promise();

    String words();
}
