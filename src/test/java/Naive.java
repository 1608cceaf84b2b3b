import java.util.ArrayList;
import java.util.Arrays;
import java.util.HashSet;
import java.util.List;
import java.util.TreeMap;
import java.util.TreeSet;

/**
 * The document in its own words, as slow as they are: all readings, all arrangements and all stretches
 * are written out. To be compared with the class in runs.
 */
final class Naive {
  private static final int NONE = -1;

  static final class Page {
    int book;
    int lines;
    int cells;
    int front;
    int worms;
    int[] hand = new int[4];
    final List<Integer> evidence = new ArrayList<>();
    int[][][] images;
    List<List<List<TreeMap<Integer, Integer>>>> given = new ArrayList<>();
  }

  static final class Told {
    int kind;
    int leaf;
    int other;
    boolean certain;
    boolean holds = true;
  }

  static final class Reading {
    int weight;
    int[] letters;
    String words;
  }

  final List<Page> pages = new ArrayList<>();
  final int[] sheets = {4, 4};
  final int[][] lights = {{1, 1}, {1, 1}, {1, 1}};
  final List<Told> facts = new ArrayList<>();
  final List<List<Integer>> words = new ArrayList<>();
  final List<List<Integer>> works = new ArrayList<>();
  List<Integer> draft = new ArrayList<>();

  private static void index(boolean isFine) {
    if (!isFine) throw new IndexOutOfBoundsException();
  }

  private static void argument(boolean isFine) {
    if (!isFine) throw new IllegalArgumentException();
  }

  private static void state(boolean isFine) {
    if (!isFine) throw new IllegalStateException();
  }

  private static boolean in(int value, int least, int most) {
    return least <= value && value <= most;
  }

  private Page page(int leaf) {
    index(in(leaf, 0, pages.size() - 1));
    return pages.get(leaf);
  }

  private Page page(int leaf, int line) {
    Page page = page(leaf);
    index(in(line, 0, page.lines - 1));
    return page;
  }

  private Page page(int leaf, int line, int cell) {
    Page page = page(leaf, line);
    index(in(cell, 0, page.cells - 1));
    return page;
  }

  private List<Integer> leavesOf(int book) {
    List<Integer> leaves = new ArrayList<>();
    for (int i = 0; i < pages.size(); i++) if (pages.get(i).book == book) leaves.add(i);
    return leaves;
  }

  int leaf(int book, int lines, int cells, int front, int worms) {
    index(in(book, 0, 1));
    argument(in(lines, 1, 4) && in(cells, 1, 8) && in(front, -1, 1) && in(worms, 0, 255));
    int of = leavesOf(book).size();
    state(pages.size() < 10 && of < 6 && of < 2 * sheets[book]);
    Page page = new Page();
    page.book = book;
    page.lines = lines;
    page.cells = cells;
    page.front = front;
    page.worms = worms;
    page.images = new int[lines][cells][3];
    for (int line = 0; line < lines; line++) {
      page.given.add(new ArrayList<>());
      for (int cell = 0; cell < cells; cell++) {
        Arrays.fill(page.images[line][cell], NONE);
        page.given.get(line).add(new ArrayList<>());
        for (int s = 0; s < 3; s++) page.given.get(line).get(cell).add(new TreeMap<>());
      }
    }
    pages.add(page);
    return pages.size() - 1;
  }

  int sheets(int book, int count) {
    index(in(book, 0, 1));
    argument(in(count, 1, 4));
    state(leavesOf(book).size() <= 2 * count);
    int had = sheets[book];
    sheets[book] = count;
    return had;
  }

  void light(int light, int over, int under) {
    index(in(light, 0, 2));
    argument(in(over, 0, 9) && in(under, 0, 9));
    lights[light] = new int[] {over, under};
  }

  int image(int leaf, int line, int cell, int light, int value) {
    Page page = page(leaf, line, cell);
    index(in(light, 0, 2));
    argument(in(value, -1, 162));
    page.images[line][cell][light] = value;
    return unmix(leaf, line, cell, true);
  }

  int unmix(int leaf, int line, int cell, boolean under) {
    int[] images = page(leaf, line, cell).images[line][cell];
    List<int[]> pairs = new ArrayList<>();
    for (int o = 0; o <= 9; o++) {
      for (int u = 0; u <= 9; u++) {
        boolean all = true;
        for (int i = 0; i < 3; i++) all &= images[i] == NONE || images[i] == lights[i][0] * o + lights[i][1] * u;
        if (all) pairs.add(new int[] {o, u});
      }
    }
    return pairs.size() != 1 ? NONE : pairs.get(0)[under ? 1 : 0];
  }

  private boolean blank(int leaf, int line, int cell) {
    return unmix(leaf, line, cell, true) == 0;
  }

  int give(int scholar, int leaf, int line, int cell, int letter, int weight) {
    Page page = page(leaf, line, cell);
    index(in(scholar, 0, 2));
    argument(in(letter, 0, 25) && in(weight, 0, 9));
    TreeMap<Integer, Integer> given = page.given.get(line).get(cell).get(scholar);
    HashSet<Integer> others = new HashSet<>(given.keySet());
    others.remove(letter);
    state(!blank(leaf, line, cell) && others.size() < 3);
    if (weight == 0) given.remove(letter);
    else given.put(letter, weight);
    return given.size();
  }

  int type(int letter) {
    argument(in(letter, 0, 25));
    state(draft.size() < 40);
    draft.add(letter);
    return draft.size();
  }

  int word() {
    state(in(draft.size(), 1, 8));
    if (!words.contains(draft)) {
      state(words.size() < 12);
      words.add(draft);
    }
    int number = words.indexOf(draft);
    draft = new ArrayList<>();
    return number;
  }

  int work() {
    state(!draft.isEmpty() && works.size() < 4);
    works.add(draft);
    draft = new ArrayList<>();
    return works.size() - 1;
  }

  private TreeMap<Integer, Integer> layered(int leaf, int line, int cell, int layer) {
    TreeMap<Integer, Integer> sums = new TreeMap<>();
    for (int s = 0; s < 3; s++) {
      if ((layer & 1 << s) == 0) continue;
      pages.get(leaf).given.get(line).get(cell).get(s).forEach((letter, weight) -> sums.merge(letter, weight, Integer::sum));
    }
    return sums;
  }

  /** All best readings, the first one first. */
  List<Reading> best(int leaf, int line, int layer) {
    Page page = page(leaf, line);
    argument(in(layer, 0, 7));
    boolean[] blanks = new boolean[page.cells];
    List<TreeMap<Integer, Integer>> sums = new ArrayList<>();
    for (int cell = 0; cell < page.cells; cell++) {
      blanks[cell] = blank(leaf, line, cell);
      sums.add(layered(leaf, line, cell, layer));
    }
    List<Reading> all = new ArrayList<>();
    int[] letters = new int[page.cells];
    Arrays.fill(letters, NONE);
    readOn(0, 0, "", letters, blanks, sums, all);
    int most = NONE;
    for (Reading each : all) most = Math.max(most, each.weight);
    List<Reading> best = new ArrayList<>();
    for (Reading each : all) if (each.weight == most) best.add(each);
    best.sort((a, b) -> Arrays.compare(a.letters, b.letters));
    return best;
  }

  private void readOn(int cell, int weight, String told, int[] letters, boolean[] blanks,
      List<TreeMap<Integer, Integer>> sums, List<Reading> all) {
    if (cell == blanks.length) {
      Reading reading = new Reading();
      reading.weight = weight;
      reading.letters = letters.clone();
      reading.words = told;
      all.add(reading);
      return;
    }
    if (blanks[cell]) {
      readOn(cell + 1, weight, told, letters, blanks, sums, all);
      return;
    }
    for (int w = 0; w < words.size(); w++) {
      List<Integer> word = words.get(w);
      if (cell + word.size() > blanks.length) continue;
      boolean fits = true;
      int more = 0;
      for (int i = 0; i < word.size(); i++) {
        TreeMap<Integer, Integer> given = sums.get(cell + i);
        fits &= !blanks[cell + i] && (given.isEmpty() || given.containsKey(word.get(i)));
        more += given.getOrDefault(word.get(i), 0);
      }
      if (!fits) continue;
      for (int i = 0; i < word.size(); i++) letters[cell + i] = word.get(i);
      readOn(cell + word.size(), weight + more, told + w + "@" + cell + " ", letters, blanks, sums, all);
      for (int i = 0; i < word.size(); i++) letters[cell + i] = NONE;
    }
  }

  int weight(int leaf, int line, int layer) {
    List<Reading> best = best(leaf, line, layer);
    return best.isEmpty() ? NONE : best.get(0).weight;
  }

  int readings(int leaf, int line, int layer) {
    HashSet<String> unlike = new HashSet<>();
    for (Reading each : best(leaf, line, layer)) unlike.add(each.words);
    return unlike.size();
  }

  int letter(int leaf, int line, int cell, int layer) {
    page(leaf, line, cell);
    List<Reading> best = best(leaf, line, layer);
    return best.isEmpty() ? NONE : best.get(0).letters[cell];
  }

  int fact(int kind, int leaf, int other, boolean certain) {
    Page page = page(leaf);
    if (kind == Undertext.AT) index(in(other, 0, 2 * sheets[page.book] - 1));
    else if (in(kind, 0, 4)) page(other);
    argument(in(kind, 0, 4));
    argument(kind == Undertext.AT || leaf != other && pages.get(other).book == page.book);
    state(facts.size() < 12);
    Told told = new Told();
    told.kind = kind;
    told.leaf = leaf;
    told.other = other;
    told.certain = certain;
    facts.add(told);
    return facts.size() - 1;
  }

  boolean hold(int fact, boolean holds) {
    index(in(fact, 0, facts.size() - 1));
    boolean held = facts.get(fact).holds;
    facts.get(fact).holds = holds;
    return held;
  }

  /** All arrangements that fit: of each, by leaf, its place. */
  private List<int[]> fitting(int book, boolean all, int without) {
    List<Told> counting = new ArrayList<>();
    for (int i = 0; i < facts.size(); i++) {
      Told each = facts.get(i);
      if (i != without && each.holds && (all || each.certain) && pages.get(each.leaf).book == book) counting.add(each);
    }
    List<int[]> fitting = new ArrayList<>();
    int[] places = new int[10];
    Arrays.fill(places, NONE);
    arrange(leavesOf(book), 0, places, 2 * sheets[book], counting, fitting);
    return fitting;
  }

  private void arrange(List<Integer> leaves, int done, int[] places, int end, List<Told> counting, List<int[]> fitting) {
    if (done == leaves.size()) {
      if (fits(leaves, places, end, counting)) fitting.add(places.clone());
      return;
    }
    int leaf = leaves.get(done);
    for (int place = 0; place < end; place++) {
      boolean free = true;
      for (int i = 0; i < done; i++) free &= places[leaves.get(i)] != place;
      if (!free) continue;
      places[leaf] = place;
      arrange(leaves, done + 1, places, end, counting, fitting);
      places[leaf] = NONE;
    }
  }

  private boolean fits(List<Integer> leaves, int[] places, int end, List<Told> counting) {
    for (Told each : counting) if (!holdsIn(each, places, end)) return false;
    for (int a : leaves) {
      for (int b : leaves) {
        Page first = pages.get(a);
        Page second = pages.get(b);
        if (places[b] == places[a] + 1 && first.front != NONE && second.front != NONE && first.front == second.front) {
          return false;
        }
        for (int c : leaves) {
          boolean isBetween = places[a] < places[c] && places[c] < places[b];
          if (isBetween && (first.worms & second.worms & ~pages.get(c).worms) != 0) return false;
        }
      }
    }
    return true;
  }

  private static boolean holdsIn(Told fact, int[] places, int end) {
    int here = places[fact.leaf];
    if (fact.kind == Undertext.AT) return here == fact.other;
    int there = places[fact.other];
    boolean ofOneSheet = here == end - there - 1;
    if (fact.kind == Undertext.SHEET) return ofOneSheet;
    if (fact.kind == Undertext.APART) return !ofOneSheet;
    return fact.kind == Undertext.NEXT ? there == here + 1 : here < there;
  }

  int arrangements(int book, boolean all) {
    index(in(book, 0, 1));
    return fitting(book, all, NONE).size();
  }

  int places(int leaf, boolean all) {
    int places = 0;
    for (int[] each : fitting(page(leaf).book, all, NONE)) places |= 1 << each[leaf];
    return places;
  }

  int joined(int leaf, int other) {
    Page page = page(leaf);
    Page second = page(other);
    argument(leaf != other && page.book == second.book);
    List<int[]> fitting = fitting(page.book, false, NONE);
    int count = 0;
    for (int[] each : fitting) if (each[leaf] + each[other] == 2 * sheets[page.book] - 1) count++;
    return count == 0 ? 0 : count == fitting.size() ? 2 : 1;
  }

  private int placeOf(int leaf, int without) {
    TreeSet<Integer> places = new TreeSet<>();
    for (int[] each : fitting(pages.get(leaf).book, false, without)) places.add(each[leaf]);
    return places.size() == 1 ? places.first() : NONE;
  }

  int hand(int leaf, int first, int second, int third, int haste) {
    Page page = page(leaf);
    argument(in(first, 0, 20) && in(second, 0, 20) && in(third, 0, 20) && in(haste, 0, 3));
    page.hand = new int[] {first, second, third, haste};
    TreeSet<Integer> hands = new TreeSet<>();
    for (int i = 0; i < pages.size(); i++) hands.add(handOf(i));
    return hands.size();
  }

  int handOf(int leaf) {
    page(leaf);
    TreeSet<Integer> group = new TreeSet<>();
    followHand(leaf, group);
    return group.first();
  }

  private void followHand(int leaf, TreeSet<Integer> group) {
    if (!group.add(leaf)) return;
    int[] one = pages.get(leaf).hand;
    for (int i = 0; i < pages.size(); i++) {
      int[] other = pages.get(i).hand;
      int sum = 0;
      for (int k = 0; k < 3; k++) sum += Math.max(one[k], other[k]) - Math.min(one[k], other[k]);
      if (sum <= 6 + 2 * one[3] + 2 * other[3]) followHand(i, group);
    }
  }

  int date(int leaf, int spans) {
    Page page = page(leaf);
    argument(in(spans, 0, 4095));
    state(page.evidence.size() < 4);
    page.evidence.add(spans);
    return dates(leaf);
  }

  int dates(int leaf) {
    page(leaf);
    TreeSet<Integer> group = new TreeSet<>();
    followSheet(leaf, group);
    int dates = 4095;
    for (int each : group) for (int spans : pages.get(each).evidence) dates &= spans;
    return dates;
  }

  private void followSheet(int leaf, TreeSet<Integer> group) {
    if (!group.add(leaf)) return;
    for (Told each : facts) {
      if (each.kind != Undertext.SHEET || !each.certain || !each.holds) continue;
      if (each.leaf == leaf) followSheet(each.other, group);
      if (each.other == leaf) followSheet(each.leaf, group);
    }
  }

  int match(int work, int leaf, int line, int layer, boolean ends) {
    page(leaf, line);
    index(in(work, 0, works.size() - 1));
    List<Reading> best = best(leaf, line, layer);
    if (best.isEmpty()) return NONE;
    List<Integer> letters = new ArrayList<>();
    for (int each : best.get(0).letters) if (each != NONE) letters.add(each);
    List<Integer> text = works.get(work);
    int cost = Integer.MAX_VALUE;
    int end = NONE;
    for (int to = 0; to <= text.size(); to++) {
      for (int from = 0; from <= to; from++) {
        int here = costOf(letters, text.subList(from, to));
        if (here >= cost) continue;
        cost = here;
        end = to;
      }
    }
    return ends ? end : cost;
  }

  private static int costOf(List<Integer> line, List<Integer> stretch) {
    int[][] costs = new int[line.size() + 1][stretch.size() + 1];
    for (int i = 0; i <= line.size(); i++) {
      for (int j = 0; j <= stretch.size(); j++) {
        int cost = i == 0 && j == 0 ? 0 : Integer.MAX_VALUE;
        if (i > 0) cost = Math.min(cost, costs[i - 1][j] + 2);
        if (j > 0) cost = Math.min(cost, costs[i][j - 1] + 2);
        if (i > 0 && j > 0) {
          cost = Math.min(cost, costs[i - 1][j - 1] + (line.get(i - 1).equals(stretch.get(j - 1)) ? 0 : 1));
        }
        costs[i][j] = cost;
      }
    }
    return costs[line.size()][stretch.size()];
  }

  int edition(int book, int place) {
    index(in(book, 0, 1));
    index(in(place, 0, 2 * sheets[book] - 1));
    for (int leaf : leavesOf(book)) if (placeOf(leaf, NONE) == place) return leaf;
    return NONE;
  }

  int state(int leaf, int line, int cell, int layer) {
    page(leaf, line, cell);
    List<Reading> best = best(leaf, line, layer);
    if (best.isEmpty()) return Undertext.LOST;
    if (blank(leaf, line, cell)) return Undertext.BLANK;
    TreeSet<Integer> letters = new TreeSet<>();
    for (Reading each : best) letters.add(each.letters[cell]);
    if (letters.size() > 1) return Undertext.DOUBTFUL;
    TreeSet<Integer> given = new TreeSet<>(layered(leaf, line, cell, layer).keySet());
    if (given.equals(letters)) return Undertext.SURE;
    return given.isEmpty() ? Undertext.RESTORED : Undertext.READ;
  }

  int rests(int leaf) {
    page(leaf);
    int place = placeOf(leaf, NONE);
    if (place == NONE) return 0;
    int facts = 0;
    for (int i = 0; i < this.facts.size(); i++) if (placeOf(leaf, i) != place) facts |= 1 << i;
    return facts;
  }

  int worth() {
    int best = NONE;
    int most = 0;
    for (int leaf = 0; leaf < pages.size(); leaf++) {
      Page page = pages.get(leaf);
      int mixed = 0;
      for (int line = 0; line < page.lines; line++) {
        for (int cell = 0; cell < page.cells; cell++) if (unmix(leaf, line, cell, true) == NONE) mixed++;
      }
      int worth = mixed * Math.max(1, Integer.bitCount(places(leaf, false)));
      if (worth > most) {
        most = worth;
        best = leaf;
      }
    }
    return best;
  }
}
