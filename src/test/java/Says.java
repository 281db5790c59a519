import java.lang.annotation.Retention;
import java.lang.annotation.RetentionPolicy;

/**
 * The sentences of ../shared/DOC.md that a test is for, word by word. They stand in the section that the test's name
 * tells: promise07.. in "## Promise 7", terms.. in "## Terms", about.. in "## What it is".
 */
@Retention(RetentionPolicy.RUNTIME)
@interface Says {
    String[] value();
}
