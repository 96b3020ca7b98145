import com.sun.source.tree.CompilationUnitTree;
import com.sun.source.util.JavacTask;
import com.sun.source.util.Trees;
import java.io.IOException;
import java.nio.file.Files;
import java.nio.file.Path;
import java.util.List;
import javax.tools.JavaCompiler;
import javax.tools.StandardJavaFileManager;
import javax.tools.ToolProvider;

/** The rules of LANGUAGE.md that the compiler's own reading of the class can tell. */
public final class LanguageTest {
    private static final Check check = new Check();
    private static final Path FILE = Path.of("src/main/java/RoadCounts.java");

    public static void main(String[] args) throws IOException {
        check.due("3 signs are ASCII", Files.readString(FILE).chars().allMatch(c -> c < 128), true);
        JavaCompiler compiler = ToolProvider.getSystemJavaCompiler();
        try (StandardJavaFileManager files = compiler.getStandardFileManager(null, null, null)) {
            JavacTask task = (JavacTask) compiler.getTask(null, files, null, List.of("-proc:none"), null,
                files.getJavaFileObjects(FILE));
            CompilationUnitTree unit = task.parse().iterator().next();
            task.analyze();
            LanguageRules rules = new LanguageRules(check, unit, Trees.instance(task));
            rules.scan(unit, null);
            rules.checkSizes();
            rules.checkCalls();
        }
        check.end("LanguageTest");
    }
}
