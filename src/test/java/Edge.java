import java.lang.annotation.ElementType;
import java.lang.annotation.Retention;
import java.lang.annotation.RetentionPolicy;
import java.lang.annotation.Target;

/** Says for which words of the document a test is. */
@Retention(RetentionPolicy.RUNTIME)
@Target(ElementType.METHOD)
@interface Edge {

    /** What is said in "What it is" and in "Terms", ahead of promise 1. */
    int TERMS = 0;

    int promise();

    String[] words();
}
