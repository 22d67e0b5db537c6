import java.lang.annotation.Retention;
import java.lang.annotation.RetentionPolicy;

/** On a test: the promise that it holds, and the words of the document, from that promise or from the terms. */
@Retention(RetentionPolicy.RUNTIME)
@interface Holds {
    int promise();

    String words();
}
