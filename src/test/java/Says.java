import java.lang.annotation.ElementType;
import java.lang.annotation.Repeatable;
import java.lang.annotation.Retention;
import java.lang.annotation.RetentionPolicy;
import java.lang.annotation.Target;

/**
 * The words that a test holds the class to: of DOC.md's "Terms" (no number given) or of one of its promises, or of a
 * rule of LANGUAGE.md. SentencesTest sees that they stand there, and that none of DOC.md's words is left out.
 */
@Retention(RetentionPolicy.RUNTIME)
@Target(ElementType.METHOD)
@Repeatable(Says.Several.class)
@interface Says {
    int promise() default 0;

    int rule() default 0;

    String[] value();

    @Retention(RetentionPolicy.RUNTIME)
    @Target(ElementType.METHOD)
    @interface Several {
        Says[] value();
    }
}
