import java.io.IOException;
import java.nio.file.Files;
import java.nio.file.Path;

/**
 * Each sentence of the document that names an edge has a test here, which names its promise and its words:
 * the least and the greatest of each range and the first beyond, what is empty, what is full, what is refused.
 */
public final class EdgesTest {
  private static final Path DOCUMENT = Path.of("../shared/DOC.md");

  public static void main(String[] args) throws IOException {
    Due due = new Due("EdgesTest");
    if (!Files.isReadable(DOCUMENT)) throw new IOException("no document at " + DOCUMENT);
    Sentences sentences = new Sentences(DOCUMENT);
    Edges edges = new Edges(due, sentences);
    new LeavesEdges(edges).ask();
    new ReadingsEdges(edges).ask();
    new QuiresEdges(edges).ask();
    new HandsDatesEdges(edges).ask();
    new EditionsEdges(edges).ask();
    for (String each : sentences.unnamed()) due.compare("named by a test", each, "named by none");
    due.end();
  }

  /** An object that has as many of everything as there can be. */
  static Past full() {
    Past past = Past.NEW;
    for (int leaf = 0; leaf < 10; leaf++) past = past.leaf(leaf % 2, 1 + leaf % 4, 1 + leaf % 8);
    past = past.words(12).works(4).draft(40);
    for (int fact = 0; fact < 12; fact++) {
      int n = fact;
      past = past.then(x -> x.fact(n % 5, n % 4, n % 5 == Undertext.AT ? n % 8 : n % 4 + 2, n % 3 != 0));
    }
    for (int leaf = 0; leaf < 10; leaf++) past = past.date(leaf, 4095 - leaf, 7, 4095, 1 << leaf % 3).hand(leaf, 2 * leaf, leaf, 20 - leaf, leaf % 4);
    return past.give(0, 1, 0, 1, 9).give(0, 1, 0, 2, 8).give(0, 1, 0, 25, 7).then(x -> x.image(9, 0, 0, 0, 18)).then(x -> x.image(7, 0, 7, 0, 0));
  }
}
