import java.util.Random;

/** Runs of calls drawn from fixed seeds: the class answers each as the document in its own words does. */
public final class NaiveTest {
  private static final int RUNS = 400;
  private static final int CALLS = 300;
  private static final Due due = new Due("NaiveTest");

  private final Random draw;
  private final Undertext x = new Undertext();
  private final Naive y = new Naive();
  private final String name;
  private final int mostSheets;
  private final int mostLeaves;
  private final int mostCells;
  private final int letters;

  private NaiveTest(int seed) {
    draw = new Random(seed);
    name = "run " + seed;
    mostSheets = seed % 20 == 0 ? 4 : 1 + draw.nextInt(3);
    mostLeaves = seed % 20 == 0 ? 6 : 2 + draw.nextInt(4);
    mostCells = seed % 5 == 0 ? 6 : 1 + draw.nextInt(4);
    letters = 2 + draw.nextInt(2);
  }

  public static void main(String[] args) {
    for (int seed = 0; seed < RUNS; seed++) new NaiveTest(seed).run();
    due.end();
  }

  private void run() {
    for (int book = 0; book < 2; book++) {
      int b = book;
      int sheets = Math.max(1, mostSheets - draw.nextInt(2));
      both("sheets " + b + " " + sheets, () -> x.sheets(b, sheets), () -> y.sheets(b, sheets));
    }
    for (int i = 0; i < mostLeaves + 1; i++) tellLeaf();
    for (int i = 0; i < 4; i++) tellWord();
    for (int i = 0; i < CALLS; i++) call();
  }

  private void both(String call, Due.Call first, Due.Call second) {
    due.compare(Due.answerOf(second), name + ": " + call, Due.answerOf(first));
  }

  /** Mostly a number in range, at times one beside it. */
  private int some(int least, int most) {
    int chance = draw.nextInt(60);
    if (chance == 0) return least - 1;
    if (chance == 1) return most + 1;
    return least + draw.nextInt(most - least + 1);
  }

  private int someLeaf() {
    return some(0, Math.max(0, y.pages.size() - 1));
  }

  private int linesOf(int leaf) {
    return leaf >= 0 && leaf < y.pages.size() ? y.pages.get(leaf).lines : 1;
  }

  private int cellsOf(int leaf) {
    return leaf >= 0 && leaf < y.pages.size() ? y.pages.get(leaf).cells : 1;
  }

  private void tellLeaf() {
    int book = some(0, 1);
    if (book >= 0 && book < 2 && y.pages.size() >= mostLeaves) return;
    int lines = some(1, 2);
    int cells = some(1, mostCells);
    int front = some(-1, 1);
    int worms = draw.nextInt(3) == 0 ? some(0, 255) : 1 << draw.nextInt(3) & some(0, 7);
    both("leaf " + book + " " + lines + " " + cells + " " + front + " " + worms,
        () -> x.leaf(book, lines, cells, front, worms), () -> y.leaf(book, lines, cells, front, worms));
  }

  private void type(int letter) {
    both("type " + letter, () -> x.type(letter), () -> y.type(letter));
  }

  private void tellWord() {
    int length = Math.min(some(1, 3), 3);
    for (int i = 0; i < length; i++) type(draw.nextInt(letters));
    both("word", x::word, y::word);
  }

  private void tellWork() {
    int length = some(0, 14);
    for (int i = 0; i < length; i++) type(some(0, letters - 1));
    both("work", x::work, y::work);
  }

  private void call() {
    switch (draw.nextInt(16)) {
      case 0 -> ofHouse();
      case 1, 2 -> ofInk();
      case 3, 4, 5 -> ofLetters();
      case 6, 7, 8, 9 -> ofLines();
      case 10, 11 -> tellFact();
      case 12, 13, 14 -> ofQuires();
      default -> ofHands();
    }
  }

  private void ofHouse() {
    switch (draw.nextInt(5)) {
      case 0 -> tellLeaf();
      case 1 -> tellWord();
      case 2 -> tellWork();
      case 3 -> {
        int book = some(0, 1);
        int sheets = some(1, mostSheets);
        if (sheets <= mostSheets) both("sheets " + book + " " + sheets, () -> x.sheets(book, sheets), () -> y.sheets(book, sheets));
      }
      default -> both("worth", x::worth, y::worth);
    }
  }

  private static String done(Runnable call) {
    call.run();
    return "done";
  }

  private void ofInk() {
    int leaf = someLeaf();
    int line = some(0, linesOf(leaf) - 1);
    int cell = some(0, cellsOf(leaf) - 1);
    int light = some(0, 2);
    boolean under = draw.nextBoolean();
    String at = leaf + " " + line + " " + cell + " ";
    int chance = draw.nextInt(8);
    if (chance == 0) {
      int takenOver = some(0, draw.nextInt(2) == 0 ? 1 : 9);
      int takenUnder = some(0, draw.nextInt(2) == 0 ? 1 : 9);
      both("light " + light + " " + takenOver + " " + takenUnder,
          () -> done(() -> x.light(light, takenOver, takenUnder)), () -> done(() -> y.light(light, takenOver, takenUnder)));
    } else if (chance < 6) {
      int value = draw.nextInt(3) == 0 ? 0 : some(-1, draw.nextInt(2) == 0 ? 18 : 162);
      both("image " + at + light + " " + value,
          () -> x.image(leaf, line, cell, light, value), () -> y.image(leaf, line, cell, light, value));
    } else {
      both("unmix " + at + under, () -> x.unmix(leaf, line, cell, under), () -> y.unmix(leaf, line, cell, under));
    }
  }

  private void ofLetters() {
    int scholar = some(0, 2);
    int leaf = someLeaf();
    int line = some(0, linesOf(leaf) - 1);
    int cell = some(0, cellsOf(leaf) - 1);
    int letter = draw.nextInt(6) == 0 ? some(0, 25) : draw.nextInt(letters);
    int weight = some(0, draw.nextInt(2) == 0 ? 2 : 9);
    both("give " + scholar + " " + leaf + " " + line + " " + cell + " " + letter + " " + weight,
        () -> x.give(scholar, leaf, line, cell, letter, weight), () -> y.give(scholar, leaf, line, cell, letter, weight));
  }

  private void ofLines() {
    int leaf = someLeaf();
    int line = some(0, linesOf(leaf) - 1);
    int cell = some(0, cellsOf(leaf) - 1);
    int layer = some(0, 7);
    int work = some(0, Math.max(0, y.works.size() - 1));
    boolean ends = draw.nextBoolean();
    String at = leaf + " " + line + " ";
    switch (draw.nextInt(5)) {
      case 0 -> both("weight " + at + layer, () -> x.weight(leaf, line, layer), () -> y.weight(leaf, line, layer));
      case 1 -> both("readings " + at + layer, () -> x.readings(leaf, line, layer), () -> y.readings(leaf, line, layer));
      case 2 -> both("letter " + at + cell + " " + layer, () -> x.letter(leaf, line, cell, layer), () -> y.letter(leaf, line, cell, layer));
      case 3 -> both("state " + at + cell + " " + layer, () -> x.state(leaf, line, cell, layer), () -> y.state(leaf, line, cell, layer));
      default -> both("match " + work + " " + at + layer + " " + ends,
          () -> x.match(work, leaf, line, layer, ends), () -> y.match(work, leaf, line, layer, ends));
    }
  }

  private void tellFact() {
    int fact = some(0, Math.max(0, y.facts.size() - 1));
    boolean holds = draw.nextInt(3) == 0;
    if (draw.nextInt(4) != 0) {
      both("hold " + fact + " " + holds, () -> x.hold(fact, holds), () -> y.hold(fact, holds));
      return;
    }
    int kind = some(0, 4);
    int leaf = someLeaf();
    int other = draw.nextInt(4) == 0 ? some(0, 7) : someLeaf();
    boolean certain = draw.nextInt(4) != 0;
    both("fact " + kind + " " + leaf + " " + other + " " + certain,
        () -> x.fact(kind, leaf, other, certain), () -> y.fact(kind, leaf, other, certain));
  }

  private void ofQuires() {
    int book = some(0, 1);
    int leaf = someLeaf();
    int other = someLeaf();
    int place = some(0, 2 * mostSheets - 1);
    boolean all = draw.nextBoolean();
    switch (draw.nextInt(5)) {
      case 0 -> both("arrangements " + book + " " + all, () -> x.arrangements(book, all), () -> y.arrangements(book, all));
      case 1 -> both("places " + leaf + " " + all, () -> x.places(leaf, all), () -> y.places(leaf, all));
      case 2 -> both("joined " + leaf + " " + other, () -> x.joined(leaf, other), () -> y.joined(leaf, other));
      case 3 -> both("edition " + book + " " + place, () -> x.edition(book, place), () -> y.edition(book, place));
      default -> both("rests " + leaf, () -> x.rests(leaf), () -> y.rests(leaf));
    }
  }

  private void ofHands() {
    int leaf = someLeaf();
    int first = some(0, 20);
    int second = some(0, 9);
    int third = some(0, 9);
    int haste = some(0, 3);
    int spans = draw.nextInt(3) == 0 ? some(0, 4095) : ~(1 << draw.nextInt(12)) & 4095;
    switch (draw.nextInt(4)) {
      case 0 -> both("hand " + leaf + " " + first + " " + second + " " + third + " " + haste,
          () -> x.hand(leaf, first, second, third, haste), () -> y.hand(leaf, first, second, third, haste));
      case 1 -> both("handOf " + leaf, () -> x.handOf(leaf), () -> y.handOf(leaf));
      case 2 -> both("date " + leaf + " " + spans, () -> x.date(leaf, spans), () -> y.date(leaf, spans));
      default -> both("dates " + leaf, () -> x.dates(leaf), () -> y.dates(leaf));
    }
  }
}
