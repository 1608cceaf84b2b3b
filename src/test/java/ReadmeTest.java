import java.io.IOException;
import java.lang.reflect.InvocationTargetException;
import java.lang.reflect.Method;
import java.lang.reflect.Modifier;
import java.net.URL;
import java.net.URLClassLoader;
import java.nio.file.Files;
import java.nio.file.Path;
import java.util.ArrayList;
import java.util.List;
import java.util.regex.Matcher;
import java.util.regex.Pattern;
import javax.tools.JavaCompiler;
import javax.tools.ToolProvider;

/**
 * The Java of README.md, all its parts as one run: it compiles, uses every call of the face, and each call
 * answers what the line says behind it.
 */
public final class ReadmeTest {
  private static final String EXAMPLE = "ReadmeExample";
  private static final String PART = "```java";
  private static final String END = "```";
  /** A line that calls: what is kept of the answer, the call, and behind it the answer, with words or without. */
  private static final Pattern CALL = Pattern.compile("(?:int (\\w+) = )?(house\\.(\\w+)\\(.*\\)); *// ([^:]+)(?:: .*)?");
  private static final Pattern ASKED_NOTHING = Pattern.compile("house\\.light\\(.*\\); *// .*");

  private static final Due due = new Due("ReadmeTest");

  public static void main(String[] args) throws IOException, ReflectiveOperationException {
    List<String> lines = new ArrayList<>();
    List<String> answers = new ArrayList<>();
    StringBuilder body = new StringBuilder();
    String text = Files.readString(Path.of("README.md"));
    for (String line : linesOf(text)) body.append(written(line, lines, answers)).append('\n');
    List<String> got = run(body.toString());
    due.compare(String.valueOf(lines.size()), "calls that answer", String.valueOf(got.size()));
    for (int i = 0; i < lines.size() && i < got.size(); i++) due.compare(valueOf(answers.get(i)), lines.get(i), got.get(i));
    for (Method each : Undertext.class.getDeclaredMethods()) {
      if (Modifier.isPublic(each.getModifiers())) due.is(true, "uses " + each.getName(), () -> body.indexOf("house." + each.getName() + "(") >= 0);
    }
    for (Path each : testsOf(Path.of("src/test/java"))) {
      String name = each.getFileName().toString().replace(".java", "");
      due.is(true, "tells of " + name, () -> text.contains("| `" + name + "` |"));
    }
    due.end();
  }

  private static List<Path> testsOf(Path folder) throws IOException {
    List<Path> tests = new ArrayList<>();
    try (var found = Files.newDirectoryStream(folder, "*Test.java")) {
      for (Path each : found) tests.add(each);
    }
    return tests;
  }

  private static List<String> linesOf(String text) {
    List<String> lines = new ArrayList<>();
    boolean isCode = false;
    for (String line : text.split("\n")) {
      if (line.equals(PART) || line.equals(END)) isCode = line.equals(PART);
      else if (isCode) lines.add(line);
    }
    return lines;
  }

  /** The line as it is compiled: one that calls also puts its answer down. */
  private static String written(String line, List<String> lines, List<String> answers) {
    Matcher call = CALL.matcher(line);
    if (ASKED_NOTHING.matcher(line).matches() || !line.contains("house.")) return line;
    if (!call.matches()) {
      due.compare("a call with its answer", line, "none");
      return line;
    }
    lines.add(line);
    answers.add(call.group(4));
    String name = call.group(1);
    if (name == null) return "got.add(String.valueOf(" + call.group(2) + "));";
    return "int " + name + " = " + call.group(2) + "; got.add(String.valueOf(" + name + "));";
  }

  /** An answer as it is written: a constant by its name, or what it is. */
  private static String valueOf(String answer) throws IllegalAccessException {
    for (var each : Undertext.class.getFields()) {
      if (each.getName().equals(answer)) return String.valueOf(each.getInt(null));
    }
    return answer;
  }

  private static List<String> run(String body) throws IOException, ReflectiveOperationException {
    JavaCompiler compiler = ToolProvider.getSystemJavaCompiler();
    if (compiler == null) throw new IOException("no compiler");
    Path folder = Files.createTempDirectory("readme");
    Path source = folder.resolve(EXAMPLE + ".java");
    try {
      Files.writeString(source, "public class " + EXAMPLE + " {\npublic static void run(java.util.List<String> got) {\n" + body + "}\n}\n");
      int refused = compiler.run(null, null, null, "-cp", System.getProperty("java.class.path"), "-d", folder.toString(), source.toString());
      due.compare("0", "the compiler", String.valueOf(refused));
      return refused == 0 ? answersOf(folder) : List.of();
    } finally {
      Files.deleteIfExists(source);
      Files.deleteIfExists(folder.resolve(EXAMPLE + ".class"));
      Files.deleteIfExists(folder);
    }
  }

  private static List<String> answersOf(Path folder) throws IOException, ReflectiveOperationException {
    List<String> got = new ArrayList<>();
    try (URLClassLoader loader = new URLClassLoader(new URL[] {folder.toUri().toURL()})) {
      loader.loadClass(EXAMPLE).getMethod("run", List.class).invoke(null, got);
    } catch (InvocationTargetException thrown) {
      due.compare("nothing thrown", "the run", thrown.getCause().toString());
    }
    return got;
  }
}
