import java.lang.annotation.Retention;
import java.lang.annotation.RetentionPolicy;

/** Marks the test of one sentence that names a boundary: by its promise, in the document's own words. */
@Retention(RetentionPolicy.RUNTIME)
@interface Edge {
    int promise();

    String says();
}
