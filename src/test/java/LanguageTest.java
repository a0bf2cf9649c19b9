import java.io.IOException;
import javax.tools.JavaCompiler;
import javax.tools.ToolProvider;

/** The class keeps to LANGUAGE.md; an argument names another file to look at. What is looked for stands in LanguageRules. */
public final class LanguageTest {
    public static void main(String[] args) throws IOException {
        JavaCompiler compiler = ToolProvider.getSystemJavaCompiler();
        if (compiler == null) {
            // a java without javac beside it can not take the class apart
            System.out.println("LanguageTest: there is no compiler, so no rule is looked at");
            return;
        }
        LanguageRules.look(compiler, args);
    }
}
