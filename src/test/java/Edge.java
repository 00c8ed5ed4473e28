import java.lang.annotation.ElementType;
import java.lang.annotation.Retention;
import java.lang.annotation.RetentionPolicy;
import java.lang.annotation.Target;

/** A test of one boundary case: the promises it belongs to, and the sentence of the document that it holds to. */
@Retention(RetentionPolicy.RUNTIME)
@Target(ElementType.METHOD)
@interface Edge {
    int[] promise();

    /** Where the sentence stands, if not in the text of the (first) promise: the heading there. */
    String part() default "";

    String says();
}
