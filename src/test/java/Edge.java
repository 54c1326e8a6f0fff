import java.lang.annotation.ElementType;
import java.lang.annotation.Retention;
import java.lang.annotation.RetentionPolicy;
import java.lang.annotation.Target;

/** The promise, and the words of the document about one of its edges, that a test stands for. */
@Retention(RetentionPolicy.RUNTIME)
@Target(ElementType.METHOD)
@interface Edge {
    int promise();

    String says();
}
