import java.lang.annotation.ElementType;
import java.lang.annotation.Retention;
import java.lang.annotation.RetentionPolicy;
import java.lang.annotation.Target;

/** Which sentence of the document a test is for. */
@Retention(RetentionPolicy.RUNTIME)
@Target(ElementType.METHOD)
@interface Sentence {
  /** The section: a promise, or the terms that a promise is read with. */
  String of();

  /** The document's words, .. where some are left out. */
  String says();

  /** The case or the part of the sentence, where it has tests for several. */
  String where() default "";
}
