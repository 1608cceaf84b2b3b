import com.sun.source.tree.ClassTree;
import com.sun.source.tree.CompilationUnitTree;
import com.sun.source.tree.ImportTree;
import com.sun.source.tree.Tree;
import com.sun.source.util.JavacTask;
import com.sun.source.util.Trees;
import java.io.IOException;
import java.nio.file.Files;
import java.nio.file.Path;
import java.util.List;
import javax.tools.JavaCompiler;
import javax.tools.StandardJavaFileManager;
import javax.tools.ToolProvider;

/**
 * The rules of LANGUAGE.md, on the class as the compiler sees it. What the class has no need of (lists, texts,
 * casts, try, generic classes) is barred as a whole, so this is narrower than the rules. What no reading of
 * the text can tell, that no index or null goes wrong (rule 7), the other tests tell.
 */
public final class LanguageTest {
  private static final Path SOURCE = Path.of("src/main/java/Undertext.java");

  public static void main(String[] args) throws IOException {
    Due due = new Due("LanguageTest");
    signs(due, Files.readString(SOURCE));
    JavaCompiler compiler = ToolProvider.getSystemJavaCompiler();
    if (compiler == null) throw new IOException("no compiler");
    try (StandardJavaFileManager files = compiler.getStandardFileManager(null, null, null)) {
      JavacTask task = (JavacTask) compiler.getTask(null, files, null, List.of("-proc:none"), null, files.getJavaFileObjects(SOURCE));
      CompilationUnitTree unit = task.parse().iterator().next();
      task.analyze();
      file(due, unit);
      LanguageScan scan = new LanguageScan(due, unit, Trees.instance(task));
      scan.scan(unit, null);
      scan.end();
    }
    due.end();
  }

  /** Rules 3 and 4 allow texts of few signs; the file needs no sign beyond ASCII at all. */
  private static void signs(Due due, String text) {
    int beyond = 0;
    for (int i = 0; i < text.length(); i++) if (text.charAt(i) > 126) beyond++;
    due.compare("0", "signs beyond ASCII", String.valueOf(beyond));
  }

  /** One file without a package line, one class, one import. */
  private static void file(Due due, CompilationUnitTree unit) {
    due.compare("null", "the package line", String.valueOf(unit.getPackage()));
    for (ImportTree each : unit.getImports()) due.compare("java.util.Arrays", "rule 4: an import", each.getQualifiedIdentifier().toString());
    due.compare("1", "classes side by side", String.valueOf(unit.getTypeDecls().size()));
    for (Tree each : unit.getTypeDecls()) {
      due.compare("Undertext", "the class", each instanceof ClassTree named ? named.getSimpleName().toString() : each.toString());
    }
  }
}
