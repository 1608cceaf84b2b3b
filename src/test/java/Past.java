import java.util.ArrayList;
import java.util.Arrays;
import java.util.List;

/**
 * Calls that are made on a new object. They are made anew for whatever is asked, so that no answer hangs
 * on what was asked before it, and no object is used for more calls than the document promises.
 */
final class Past {
  /** A call on an object that has a past. */
  interface Call {
    Object on(Undertext x);
  }

  static final int MOST_CALLS = 512;
  private static final int QUESTIONS = 12;
  static final Past NEW = new Past(new ArrayList<>());

  private final List<Call> calls;
  private List<String> snapshot = null;

  private Past(List<Call> calls) {
    this.calls = calls;
  }

  int size() {
    return calls.size();
  }

  Undertext made() {
    Undertext x = new Undertext();
    for (Call each : calls) each.on(x);
    return x;
  }

  /** The same, but with questions asked in between, which change nothing. */
  Undertext madeAsked() {
    Undertext x = new Undertext();
    int room = calls.isEmpty() ? 0 : (MOST_CALLS - 1 - calls.size()) / calls.size();
    int asked = 0;
    for (Call each : calls) {
      each.on(x);
      for (int i = 0; i < room && i < QUESTIONS; i++) {
        int n = asked++;
        Due.answerOf(() -> question(x, n % QUESTIONS, n / QUESTIONS));
      }
    }
    return x;
  }

  private static Object question(Undertext x, int which, int turn) {
    int leaf = turn / 2 % 3;
    boolean odd = turn % 2 == 1;
    switch (which) {
      case 0: return x.arrangements(turn % 2, true);
      case 1: return x.places(leaf, false);
      case 2: return x.rests(leaf);
      case 3: return x.state(leaf, 0, turn % 3, 7);
      case 4: return x.match(turn % 4, leaf, 0, 1, odd);
      case 5: return x.readings(leaf, 0, turn % 8);
      case 6: return x.joined(leaf, turn % 3);
      case 7: return x.edition(turn % 2, turn % 8);
      case 8: return x.handOf(leaf);
      case 9: return x.dates(leaf);
      case 10: return x.unmix(leaf, 0, 0, odd);
      default: return x.worth();
    }
  }

  /** What can be asked of an object with this past. */
  List<String> snapshot() {
    if (snapshot == null) snapshot = Snapshot.of(this);
    return snapshot;
  }

  Past then(Call... more) {
    List<Call> all = new ArrayList<>(calls);
    all.addAll(Arrays.asList(more));
    return new Past(all);
  }

  /** With calls of which nobody asks whether they were refused. */
  Past thenTried(List<Call> more) {
    List<Call> all = new ArrayList<>(calls);
    for (Call each : more) all.add(x -> Due.answerOf(() -> each.on(x)));
    return new Past(all);
  }

  static Call light(int light, int over, int under) {
    return x -> {
      x.light(light, over, under);
      return "done";
    };
  }

  Past leaf(int book, int lines, int cells) {
    return then(x -> x.leaf(book, lines, cells, Undertext.NONE, 0));
  }

  /** A leaf of one cell. */
  Past leafOf(int book, int front, int worms) {
    return then(x -> x.leaf(book, 1, 1, front, worms));
  }

  /** Leaves of one cell, of which nothing is known. */
  Past leaves(int book, int count) {
    Past past = this;
    for (int i = 0; i < count; i++) past = past.leaf(book, 1, 1);
    return past;
  }

  Past sheets(int book, int sheets) {
    return then(x -> x.sheets(book, sheets));
  }

  Past image(int leaf, int line, int cell, int light, int value) {
    return then(x -> x.image(leaf, line, cell, light, value));
  }

  /** Cells of the first line of a leaf that are BLANK, as lights take the same from both inks at first. */
  Past blank(int leaf, int... cells) {
    Past past = this;
    for (int cell : cells) past = past.image(leaf, 0, cell, 0, 0);
    return past;
  }

  /** A letter of a cell of the first line of a leaf. */
  Past give(int scholar, int leaf, int cell, int letter, int weight) {
    return then(x -> x.give(scholar, leaf, 0, cell, letter, weight));
  }

  Past type(int... letters) {
    Past past = this;
    for (int each : letters) past = past.then(x -> x.type(each));
    return past;
  }

  /** A draft of as many letters, all 0. */
  Past draft(int length) {
    return type(new int[length]);
  }

  Past word(int... letters) {
    return type(letters).then(Undertext::word);
  }

  /** Words of one letter each, from 0 on. */
  Past words(int count) {
    Past past = this;
    for (int i = 0; i < count; i++) past = past.word(i);
    return past;
  }

  Past work(int... letters) {
    return type(letters).then(Undertext::work);
  }

  Past works(int count) {
    Past past = this;
    for (int i = 0; i < count; i++) past = past.work(i);
    return past;
  }

  /** A CERTAIN fact. */
  Past fact(int kind, int leaf, int other) {
    return then(x -> x.fact(kind, leaf, other, true));
  }

  Past likely(int kind, int leaf, int other) {
    return then(x -> x.fact(kind, leaf, other, false));
  }

  Past facts(int count, int kind, int leaf, int other) {
    Past past = this;
    for (int i = 0; i < count; i++) past = past.fact(kind, leaf, other);
    return past;
  }

  Past hold(int fact, boolean holds) {
    return then(x -> x.hold(fact, holds));
  }

  Past hand(int leaf, int first, int second, int third, int haste) {
    return then(x -> x.hand(leaf, first, second, third, haste));
  }

  Past date(int leaf, int... spans) {
    Past past = this;
    for (int each : spans) past = past.then(x -> x.date(leaf, each));
    return past;
  }
}
