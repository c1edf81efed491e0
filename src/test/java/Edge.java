import java.lang.annotation.ElementType;
import java.lang.annotation.Retention;
import java.lang.annotation.RetentionPolicy;
import java.lang.annotation.Target;

/** A sentence of the document that names an edge, and the promise for which the method that bears it tests it. */
@Retention(RetentionPolicy.RUNTIME)
@Target(ElementType.METHOD)
@interface Edge {
  int promise();

  String says();
}
