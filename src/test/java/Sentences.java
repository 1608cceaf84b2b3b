import java.io.IOException;
import java.nio.file.Files;
import java.nio.file.Path;
import java.util.ArrayList;
import java.util.List;
import java.util.Map;
import java.util.TreeMap;

/** What the document says, sentence by sentence, and which of it a test has named. */
final class Sentences {
  /** Stands for what the document says ahead of its promises. */
  private static final int AHEAD = 0;
  private static final int NOWHERE = -1;

  private static final class Sentence {
    private final String text;
    private boolean isNamed = false;

    private Sentence(String text) {
      this.text = text;
    }
  }

  private final Map<Integer, List<Sentence>> told = new TreeMap<>();

  Sentences(Path document) throws IOException {
    int section = NOWHERE;
    boolean isCode = false;
    for (String line : Files.readAllLines(document)) {
      if (line.startsWith("```")) isCode = !isCode;
      else if (line.startsWith("#")) section = sectionOf(line, section);
      else if (!isCode && section != NOWHERE) take(section, line);
    }
  }

  private static int sectionOf(String heading, int before) {
    if (heading.startsWith("## Promise ")) return Integer.parseInt(heading.replaceAll("## Promise (\\d+):.*", "$1"));
    if (heading.startsWith("## What it is") || heading.startsWith("## Terms")) return AHEAD;
    return heading.startsWith("###") ? before : NOWHERE;
  }

  /** Left out are lines that are no sentences, and what FaceTest looks at: the constants, and the calls of the face. */
  private void take(int section, String line) {
    boolean isOfFace = line.startsWith("`") || line.startsWith("Ahead of the calls") || line.startsWith("The constants");
    if (line.isBlank() || section == AHEAD && (isOfFace || !line.endsWith("."))) return;
    String text = line.replaceFirst("^`[^`]*`: ", "");
    List<Sentence> sentences = told.computeIfAbsent(section, none -> new ArrayList<>());
    for (String each : text.split("(?<=\\.) ")) sentences.add(new Sentence(each));
  }

  /** Whether the words stand under a promise, or else ahead of all. */
  boolean name(int promise, String words) {
    return nameIn(promise, words) || nameIn(AHEAD, words);
  }

  private boolean nameIn(int section, String words) {
    boolean stands = false;
    for (Sentence each : told.getOrDefault(section, List.of())) {
      if (!each.text.contains(words)) continue;
      each.isNamed = true;
      stands = true;
    }
    return stands;
  }

  int count() {
    int count = 0;
    for (List<Sentence> each : told.values()) count += each.size();
    return count;
  }

  List<String> unnamed() {
    List<String> unnamed = new ArrayList<>();
    told.forEach((section, sentences) -> {
      for (Sentence each : sentences) if (!each.isNamed) unnamed.add(section + ": " + each.text);
    });
    return unnamed;
  }
}
