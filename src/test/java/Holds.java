import java.lang.annotation.ElementType;
import java.lang.annotation.Retention;
import java.lang.annotation.RetentionPolicy;
import java.lang.annotation.Target;

/** Which sentence of ../shared/DOC.md a test holds, and where it stands there. */
@Retention(RetentionPolicy.RUNTIME)
@Target(ElementType.METHOD)
@interface Holds {
    /** "What it is", "Terms" (ahead of their parts), "Terms 1" .. "Terms 5", "Promise 1" .. "Promise 26". */
    String where();

    /** The words of the document, to the letter. */
    String says();
}
