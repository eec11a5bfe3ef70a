import java.lang.annotation.ElementType;
import java.lang.annotation.Retention;
import java.lang.annotation.RetentionPolicy;
import java.lang.annotation.Target;

/** The words of the document that a boundary test holds the class to, and where they stand there. */
@Retention(RetentionPolicy.RUNTIME)
@Target(ElementType.METHOD)
@interface Says {
  /** "What it is", "Terms I", "Terms II", "Terms III", "Constants", "Promise 1" to "Promise 32". */
  String in();

  /** Letter by letter as in DOC.md: BoundaryTest looks for them there. */
  String words();
}
