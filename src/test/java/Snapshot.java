/** All that can be asked of an object without changing it, as one text. Takes many calls: for short runs. */
final class Snapshot {
  private Snapshot() {
  }

  static String of(Undertext x) {
    StringBuilder text = new StringBuilder();
    for (int book = 0; book < 2; book++) {
      int b = book;
      for (int all = 0; all < 2; all++) {
        boolean isAll = all == 1;
        add(text, () -> x.arrangements(b, isAll));
      }
      for (int place = 0; place < 8; place++) {
        int p = place;
        add(text, () -> x.edition(b, p));
      }
    }
    for (int leaf = 0; leaf < 10; leaf++) addLeaf(text, x, leaf);
    add(text, x::worth);
    return text.toString();
  }

  private static void addLeaf(StringBuilder text, Undertext x, int leaf) {
    if (Due.answerOf(() -> x.dates(leaf)).startsWith("throws")) return;
    add(text, () -> x.places(leaf, false));
    add(text, () -> x.places(leaf, true));
    add(text, () -> x.handOf(leaf));
    add(text, () -> x.dates(leaf));
    add(text, () -> x.rests(leaf));
    for (int other = 0; other < 10; other++) {
      int o = other;
      add(text, () -> x.joined(leaf, o));
    }
    for (int line = 0; line < 4; line++) {
      for (int layer = 0; layer < 8; layer++) addLine(text, x, leaf, line, layer);
      int n = line;
      for (int cell = 0; cell < 8; cell++) {
        int c = cell;
        add(text, () -> x.unmix(leaf, n, c, true));
        add(text, () -> x.unmix(leaf, n, c, false));
      }
    }
  }

  private static void addLine(StringBuilder text, Undertext x, int leaf, int line, int layer) {
    if (Due.answerOf(() -> x.weight(leaf, line, layer)).startsWith("throws")) return;
    add(text, () -> x.weight(leaf, line, layer));
    add(text, () -> x.readings(leaf, line, layer));
    for (int cell = 0; cell < 8; cell++) {
      int c = cell;
      add(text, () -> x.letter(leaf, line, c, layer));
      add(text, () -> x.state(leaf, line, c, layer));
    }
    for (int work = 0; work < 4; work++) {
      int w = work;
      add(text, () -> x.match(w, leaf, line, layer, false));
      add(text, () -> x.match(w, leaf, line, layer, true));
    }
  }

  private static void add(StringBuilder text, Due.Call call) {
    text.append(Due.answerOf(call)).append(' ');
  }
}
