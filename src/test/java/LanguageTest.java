import java.io.IOException;
import java.nio.file.Files;
import java.nio.file.Path;
import java.util.ArrayList;
import java.util.List;
import java.util.regex.Matcher;
import java.util.regex.Pattern;

/** What of LANGUAGE.md the text of the class shows: it cannot tell all, but what it tells is sure. */
public final class LanguageTest {
  private static final String[] BARRED = {
    "->", "::", "\\bfinally\\b", "\\bsynchronized\\b", "\\bassert\\b", "Exact\\s*\\(", "\\bpackage\\b",
    "\\bstatic\\s*\\{", "\\bSystem\\.(?!arraycopy)", "\\bRandom\\b", "\\bhashCode\\b", "\\bprotected\\b",
    "\\bArrays\\.(?!copyOf|copyOfRange|fill)", "\\bgetMessage\\b", "\\bThrowable\\b", "\\bNullPointer", "\\bArrayIndex",
  };

  private static final Due due = new Due("LanguageTest");

  public static void main(String[] args) throws IOException {
    String text = Files.readString(Path.of("src/main/java/Undertext.java"));
    for (int i = 0; i < text.length(); i++) {
      char sign = text.charAt(i);
      if (sign > 126) due.compare("signs of ASCII", "sign " + i, String.valueOf((int) sign));
    }
    String code = text.replaceAll("(?s)/\\*.*?\\*/", "").replaceAll("//[^\n]*", "");
    for (String each : BARRED) {
      Matcher found = Pattern.compile(each).matcher(code);
      due.compare("none", each, found.find() ? found.group() : "none");
    }
    imports(code);
    thrown(code);
    statics(code);
    methods(code);
    due.end();
  }

  private static void imports(String code) {
    Matcher found = Pattern.compile("import ([^;]*);").matcher(code);
    while (found.find()) due.compare("java.util.Arrays", "an import", found.group(1));
  }

  private static void thrown(String code) {
    Matcher found = Pattern.compile("\\bthrow\\b([^;]*);").matcher(code);
    while (found.find()) {
      String what = found.group(1).trim();
      boolean isFine = what.matches("new (IllegalState|IllegalArgument|IndexOutOfBounds)Exception\\(\\)");
      due.compare("true", "throw " + what, String.valueOf(isFine));
    }
  }

  private static void statics(String code) {
    Matcher found = Pattern.compile("\\n *(public|private) static (?!final)([^\\n]*)").matcher(code);
    while (found.find()) {
      due.compare("true", "a static that is not final: " + found.group(2), String.valueOf(found.group(2).contains("(")));
    }
  }

  /** Every method by its braces: how long it is, and how many parameters it takes. */
  private static void methods(String code) {
    Pattern head = Pattern.compile("\\n( +)(?:public|private)[^;=(]*\\(([^)]*)\\)[^;{]*\\{");
    Matcher found = head.matcher(code);
    List<String> seen = new ArrayList<>();
    while (found.find()) {
      int close = code.indexOf("\n" + found.group(1) + "}", found.end() - 1);
      String body = code.substring(found.start() + 1, close);
      String name = found.group().trim();
      seen.add(name);
      long lines = body.chars().filter(sign -> sign == '\n').count() + 1;
      due.compare("true", name + " is short, not " + lines, String.valueOf(lines <= 60));
      String parameters = found.group(2).trim();
      int count = parameters.isEmpty() ? 0 : parameters.split(",").length;
      due.compare("true", name + " takes at most seven", String.valueOf(count <= 7));
    }
    due.compare("true", "methods were found", String.valueOf(seen.size() > 27));
  }
}
