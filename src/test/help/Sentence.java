import java.lang.annotation.Retention;
import java.lang.annotation.RetentionPolicy;

/** The sentence of ../shared/DOC.md that a test holds, in the document's own words. */
@Retention(RetentionPolicy.RUNTIME)
public @interface Sentence {
  /** "What it is", "Terms 1" to "Terms 4", or "Promise 1" to "Promise 33". */
  String of();

  String says();
}
