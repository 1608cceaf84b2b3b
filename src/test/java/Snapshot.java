import java.util.ArrayList;
import java.util.List;

/**
 * All that can be asked of an object with a past, and what the calls would answer that change it: its
 * draft, how many it has of everything, which facts hold, how often evidence was told.
 */
final class Snapshot {
  /** One more than there can be, so that one too many would show. */
  private static final int LEAVES = 11;
  private static final int LINES = 5;
  private static final int CELLS = 9;

  private final Past past;
  private final List<String> answers = new ArrayList<>();
  private Undertext x;
  private int used = 0;

  private Snapshot(Past past) {
    this.past = past;
    anew();
  }

  static List<String> of(Past past) {
    Snapshot snapshot = new Snapshot(past);
    for (int book = 0; book < 2; book++) snapshot.askBook(book);
    for (int leaf = 0; leaf < LEAVES && snapshot.has(leaf, 0, 0); leaf++) snapshot.askLeaf(leaf);
    snapshot.ask("worth", Undertext::worth);
    snapshot.askCounts();
    for (int leaf = 0; leaf < LEAVES && snapshot.has(leaf, 0, 0); leaf++) snapshot.askTold(leaf);
    return snapshot.answers;
  }

  private void anew() {
    x = past.made();
    used = past.size();
  }

  private Object asked(Past.Call call) {
    if (used >= Past.MOST_CALLS) anew();
    used++;
    return Due.answerOf(() -> call.on(x));
  }

  private void ask(String what, Past.Call call) {
    answers.add(what + " " + asked(call));
  }

  private boolean has(int leaf, int line, int cell) {
    return !Due.INDEX.equals(asked(x -> x.unmix(leaf, line, cell, true)));
  }

  private void askBook(int book) {
    ask("arrangements of book " + book + " by all", x -> x.arrangements(book, true));
    ask("arrangements of book " + book + " by the CERTAIN", x -> x.arrangements(book, false));
    for (int i = 0; i < 8; i++) {
      int place = i;
      ask("edition of book " + book + " at " + place, x -> x.edition(book, place));
    }
  }

  private void askLeaf(int leaf) {
    ask("places by the CERTAIN of leaf " + leaf, x -> x.places(leaf, false));
    ask("places by all of leaf " + leaf, x -> x.places(leaf, true));
    ask("handOf " + leaf, x -> x.handOf(leaf));
    ask("dates of " + leaf, x -> x.dates(leaf));
    ask("rests of " + leaf, x -> x.rests(leaf));
    for (int i = 0; i < leaf; i++) {
      int other = i;
      ask("joined " + leaf + " " + other, x -> x.joined(leaf, other));
    }
    for (int line = 0; line < LINES && has(leaf, line, 0); line++) {
      for (int layer = 0; layer < 8; layer++) askLine(leaf, line, layer);
      for (int cell = 0; cell < CELLS && has(leaf, line, cell); cell++) askInk(leaf, line, cell);
    }
  }

  private void askInk(int leaf, int line, int cell) {
    String at = leaf + " " + line + " " + cell;
    ask("undertext of " + at, x -> x.unmix(leaf, line, cell, true));
    ask("overtext of " + at, x -> x.unmix(leaf, line, cell, false));
  }

  private void askLine(int leaf, int line, int layer) {
    String at = leaf + " " + line + " by " + layer;
    ask("weight of " + at, x -> x.weight(leaf, line, layer));
    ask("readings of " + at, x -> x.readings(leaf, line, layer));
    for (int i = 0; i < CELLS && has(leaf, line, i); i++) {
      int cell = i;
      ask("letter of " + at + " at " + cell, x -> x.letter(leaf, line, cell, layer));
      ask("state of " + at + " at " + cell, x -> x.state(leaf, line, cell, layer));
    }
    for (int i = 0; i < 4; i++) {
      int work = i;
      ask("cost of " + at + " in " + work, x -> x.match(work, leaf, line, layer, false));
      ask("end of " + at + " in " + work, x -> x.match(work, leaf, line, layer, true));
    }
  }

  /** Each on an object of its own, since these calls change it. */
  private void askCounts() {
    String[] names = {"a letter", "a word", "a work", "a leaf of book 0", "a leaf of book 1"};
    Past.Call[] calls = {x -> x.type(0), Undertext::word, Undertext::work,
      x -> x.leaf(0, 1, 1, Undertext.NONE, 0), x -> x.leaf(1, 1, 1, Undertext.NONE, 0)};
    for (int i = 0; i < calls.length; i++) {
      anew();
      ask(names[i] + " more", calls[i]);
    }
    anew();
    asked(Undertext::work);
    for (int i = 0; i < 4; i++) {
      int work = i;
      ask("the draft as a work, in which the first line costs, " + work, x -> x.match(work, 0, 0, 7, false));
    }
    anew();
    for (int i = 0; i < 12; i++) {
      int fact = i;
      ask("hold " + fact, x -> x.hold(fact, true));
    }
    anew();
    for (int i = 0; i < 2; i++) {
      int book = i;
      ask("sheets of book " + book, x -> x.sheets(book, 4));
    }
    anew();
    ask("a fact more", x -> x.fact(Undertext.AT, 0, 0, true));
  }

  private void askTold(int leaf) {
    anew();
    for (int time = 0; time < 5; time++) ask("date of " + leaf + ", time " + time, x -> x.date(leaf, 4095));
    for (int i = 0; i < LINES && has(leaf, i, 0); i++) {
      int line = i;
      for (int k = 0; k < CELLS && has(leaf, line, k); k++) {
        int cell = k;
        for (int s = 0; s < 3; s++) {
          int scholar = s;
          String at = scholar + " to " + leaf + " " + line + " " + cell;
          ask("letters given by " + at, x -> x.give(scholar, leaf, line, cell, 25, 0));
        }
      }
    }
  }
}
