import java.util.Arrays;

/**
 * A house that brings erased books back: leaves, images, readings, quires, hands, dates, works and
 * editions. All rows that a call works with are made with the object and used again, so that no
 * call makes anything but what it keeps: a leaf, a word, a work or a fact.
 */
public final class Undertext {
  public static final int NONE = -1;
  public static final int HAIR = 0, FLESH = 1;
  public static final int SHEET = 0, NEXT = 1, AHEAD = 2, AT = 3, APART = 4;
  public static final int LOST = 0, BLANK = 1, SURE = 2, READ = 3, RESTORED = 4, DOUBTFUL = 5;

  private static final int BOOKS = 2;
  private static final int MOST_LEAVES = 10;
  private static final int BOOK_LEAVES = 6;
  private static final int MOST_SHEETS = 4;
  private static final int MOST_PLACES = 2 * MOST_SHEETS;
  private static final int MOST_LINES = 4;
  private static final int MOST_CELLS = 8;
  private static final int MOST_WORMS = 255;
  private static final int LIGHTS = 3;
  private static final int MOST_MEASURE = 9;
  private static final int MOST_TAKEN = 9;
  private static final int MOST_IMAGE = 162;
  private static final int SCHOLARS = 3;
  private static final int MOST_LAYER = 7;
  private static final int LETTERS = 26;
  private static final int MOST_GIVEN = 3;
  private static final int MOST_WEIGHT = 9;
  private static final int MOST_WORDS = 12;
  private static final int WORD_LETTERS = 8;
  private static final int MOST_WORKS = 4;
  private static final int WORK_LETTERS = 40;
  private static final int MOST_FACTS = 12;
  private static final int MOST_HAND = 20;
  private static final int MOST_HASTE = 3;
  private static final int ALL_SPANS = 4095;
  private static final int MOST_EVIDENCE = 4;
  /** Stands apart from NONE, which tells that no fact is broken. */
  private static final int REFUSED = -2;

  private final Lights lights = new Lights();
  private final Leaf[] leaves = new Leaf[MOST_LEAVES];
  private int leafCount = 0;
  private final Quire[] quires = {new Quire(), new Quire()};
  private final Fact[] facts = new Fact[MOST_FACTS];
  private int factCount = 0;
  private final int[] draft = new int[WORK_LETTERS];
  private int draftLength = 0;
  private final Text[] words = new Text[MOST_WORDS];
  private int wordCount = 0;
  private final Text[] works = new Text[MOST_WORKS];
  private int workCount = 0;
  private final Reader reader = new Reader();
  private final Matcher matcher = new Matcher();
  private final int[] lowest = new int[MOST_LEAVES];

  public Undertext() {
  }

  // ---- leaves, images

  public int leaf(int book, int lines, int cells, int front, int worms)
      throws IndexOutOfBoundsException, IllegalArgumentException, IllegalStateException {
    Quire quire = quireOf(book);
    if (quire == null) throw new IndexOutOfBoundsException();
    if (!isWithin(lines, 1, MOST_LINES) || !isWithin(cells, 1, MOST_CELLS)) throw new IllegalArgumentException();
    if (front != HAIR && front != FLESH && front != NONE) throw new IllegalArgumentException();
    if (!isWithin(worms, 0, MOST_WORMS)) throw new IllegalArgumentException();
    if (leafCount >= MOST_LEAVES || !quire.hasRoom()) throw new IllegalStateException();
    Leaf told = new Leaf(leafCount, quire, lines, cells);
    told.front = front;
    told.worms = worms;
    leaves[leafCount] = told;
    quire.take(told);
    leafCount++;
    return told.number;
  }

  public int sheets(int book, int sheets)
      throws IndexOutOfBoundsException, IllegalArgumentException, IllegalStateException {
    Quire quire = quireOf(book);
    if (quire == null) throw new IndexOutOfBoundsException();
    if (!isWithin(sheets, 1, MOST_SHEETS)) throw new IllegalArgumentException();
    if (quire.size > 2 * sheets) throw new IllegalStateException();
    int had = quire.sheetCount;
    quire.sheetCount = sheets;
    quire.forget();
    return had;
  }

  public void light(int light, int over, int under)
      throws IndexOutOfBoundsException, IllegalArgumentException {
    if (!isWithin(light, 0, LIGHTS - 1)) throw new IndexOutOfBoundsException();
    if (!isWithin(over, 0, MOST_TAKEN) || !isWithin(under, 0, MOST_TAKEN)) throw new IllegalArgumentException();
    lights.over[light] = over;
    lights.under[light] = under;
    for (Leaf each : leaves) {
      if (each != null) each.measureAll(lights);
    }
  }

  public int image(int leaf, int line, int cell, int light, int value)
      throws IndexOutOfBoundsException, IllegalArgumentException {
    Cell imaged = cellOf(leaf, line, cell);
    if (imaged == null || !isWithin(light, 0, LIGHTS - 1)) throw new IndexOutOfBoundsException();
    if (value != NONE && !isWithin(value, 0, MOST_IMAGE)) throw new IllegalArgumentException();
    imaged.images[light] = value;
    imaged.measure(lights);
    return imaged.under;
  }

  public int unmix(int leaf, int line, int cell, boolean under) throws IndexOutOfBoundsException {
    Cell asked = cellOf(leaf, line, cell);
    if (asked == null) throw new IndexOutOfBoundsException();
    return under ? asked.under : asked.over;
  }

  // ---- readings

  public int give(int scholar, int leaf, int line, int cell, int letter, int weight)
      throws IndexOutOfBoundsException, IllegalArgumentException, IllegalStateException {
    Cell given = cellOf(leaf, line, cell);
    if (given == null || !isWithin(scholar, 0, SCHOLARS - 1)) throw new IndexOutOfBoundsException();
    if (!isLetter(letter) || !isWithin(weight, 0, MOST_WEIGHT)) throw new IllegalArgumentException();
    int slot = given.slotFor(scholar, letter);
    if (given.isBlank() || slot == NONE) throw new IllegalStateException();
    given.put(slot, letter, weight);
    return given.countOf(scholar);
  }

  public int type(int letter) throws IllegalArgumentException, IllegalStateException {
    if (!isLetter(letter)) throw new IllegalArgumentException();
    if (draftLength >= draft.length) throw new IllegalStateException();
    draft[draftLength] = letter;
    draftLength++;
    return draftLength;
  }

  public int word() throws IllegalStateException {
    if (draftLength == 0 || draftLength > WORD_LETTERS) throw new IllegalStateException();
    int same = wordLikeDraft();
    if (same == NONE && wordCount >= MOST_WORDS) throw new IllegalStateException();
    int number = same;
    if (same == NONE) {
      number = wordCount;
      words[wordCount] = new Text(draft, draftLength);
      wordCount++;
    }
    draftLength = 0;
    return number;
  }

  public int work() throws IllegalStateException {
    if (draftLength == 0 || workCount >= MOST_WORKS) throw new IllegalStateException();
    int number = workCount;
    works[workCount] = new Text(draft, draftLength);
    workCount++;
    draftLength = 0;
    return number;
  }

  public int weight(int leaf, int line, int layer) throws IndexOutOfBoundsException, IllegalArgumentException {
    Leaf asked = leafOf(leaf);
    if (asked == null || !asked.hasLine(line)) throw new IndexOutOfBoundsException();
    if (!isLayer(layer)) throw new IllegalArgumentException();
    reader.read(asked, line, layer, words);
    return reader.bestWeight();
  }

  public int readings(int leaf, int line, int layer) throws IndexOutOfBoundsException, IllegalArgumentException {
    Leaf asked = leafOf(leaf);
    if (asked == null || !asked.hasLine(line)) throw new IndexOutOfBoundsException();
    if (!isLayer(layer)) throw new IllegalArgumentException();
    reader.read(asked, line, layer, words);
    return reader.bestCount();
  }

  public int letter(int leaf, int line, int cell, int layer)
      throws IndexOutOfBoundsException, IllegalArgumentException {
    Leaf asked = leafOf(leaf);
    if (asked == null || asked.cellAt(line, cell) == null) throw new IndexOutOfBoundsException();
    if (!isLayer(layer)) throw new IllegalArgumentException();
    reader.read(asked, line, layer, words);
    return reader.firstLetter(cell);
  }

  // ---- quires

  public int fact(int kind, int leaf, int other, boolean isCertain)
      throws IndexOutOfBoundsException, IllegalArgumentException, IllegalStateException {
    Leaf first = leafOf(leaf);
    if (first == null) throw new IndexOutOfBoundsException();
    if (!isWithin(kind, SHEET, APART)) throw new IllegalArgumentException();
    if (kind == AT) {
      if (!first.quire.hasPlace(other)) throw new IndexOutOfBoundsException();
    } else {
      Leaf second = leafOf(other);
      if (second == null) throw new IndexOutOfBoundsException();
      if (first == second || first.quire != second.quire) throw new IllegalArgumentException();
    }
    if (factCount >= MOST_FACTS) throw new IllegalStateException();
    Fact told = new Fact(factCount, first.quire, kind, leaf, other, isCertain);
    facts[factCount] = told;
    factCount++;
    first.quire.forget();
    return told.number;
  }

  public boolean hold(int fact, boolean holds) throws IndexOutOfBoundsException {
    if (!isWithin(fact, 0, facts.length - 1)) throw new IndexOutOfBoundsException();
    Fact told = facts[fact];
    if (told == null) throw new IndexOutOfBoundsException();
    boolean held = told.holds;
    told.holds = holds;
    told.quire.forget();
    return held;
  }

  public int arrangements(int book, boolean all) throws IndexOutOfBoundsException {
    Quire quire = quireOf(book);
    if (quire == null) throw new IndexOutOfBoundsException();
    return quire.surveyed(all, facts).count;
  }

  public int places(int leaf, boolean all) throws IndexOutOfBoundsException {
    Leaf asked = leafOf(leaf);
    if (asked == null) throw new IndexOutOfBoundsException();
    return placesOf(asked, all);
  }

  public int joined(int leaf, int other) throws IndexOutOfBoundsException, IllegalArgumentException {
    Leaf first = leafOf(leaf);
    Leaf second = leafOf(other);
    if (first == null || second == null) throw new IndexOutOfBoundsException();
    if (first == second || first.quire != second.quire) throw new IllegalArgumentException();
    Survey survey = first.quire.surveyed(false, facts);
    int together = survey.joinsOf(leaf, other);
    if (together == 0) return 0;
    return together == survey.count ? 2 : 1;
  }

  // ---- hands, dates

  public int hand(int leaf, int first, int second, int third, int haste)
      throws IndexOutOfBoundsException, IllegalArgumentException {
    Leaf asked = leafOf(leaf);
    if (asked == null) throw new IndexOutOfBoundsException();
    if (!isWithin(first, 0, MOST_HAND) || !isWithin(second, 0, MOST_HAND)) throw new IllegalArgumentException();
    if (!isWithin(third, 0, MOST_HAND) || !isWithin(haste, 0, MOST_HASTE)) throw new IllegalArgumentException();
    asked.first = first;
    asked.second = second;
    asked.third = third;
    asked.haste = haste;
    settleHands();
    int hands = 0;
    for (Leaf each : leaves) {
      if (each != null && lowest[each.number] == each.number) hands++;
    }
    return hands;
  }

  public int handOf(int leaf) throws IndexOutOfBoundsException {
    Leaf asked = leafOf(leaf);
    if (asked == null) throw new IndexOutOfBoundsException();
    settleHands();
    return lowest[asked.number];
  }

  public int date(int leaf, int spans)
      throws IndexOutOfBoundsException, IllegalArgumentException, IllegalStateException {
    Leaf asked = leafOf(leaf);
    if (asked == null) throw new IndexOutOfBoundsException();
    if (!isWithin(spans, 0, ALL_SPANS)) throw new IllegalArgumentException();
    if (asked.evidence >= MOST_EVIDENCE) throw new IllegalStateException();
    asked.evidence++;
    asked.spans &= spans;
    return spansOf(asked);
  }

  public int dates(int leaf) throws IndexOutOfBoundsException {
    Leaf asked = leafOf(leaf);
    if (asked == null) throw new IndexOutOfBoundsException();
    return spansOf(asked);
  }

  // ---- works, editions

  public int match(int work, int leaf, int line, int layer, boolean ends)
      throws IndexOutOfBoundsException, IllegalArgumentException {
    Leaf asked = leafOf(leaf);
    if (asked == null || !asked.hasLine(line)) throw new IndexOutOfBoundsException();
    if (!isWithin(work, 0, works.length - 1)) throw new IndexOutOfBoundsException();
    Text text = works[work];
    if (text == null) throw new IndexOutOfBoundsException();
    if (!isLayer(layer)) throw new IllegalArgumentException();
    reader.read(asked, line, layer, words);
    if (reader.bestWeight() == NONE) return NONE;
    matcher.align(reader, text);
    return ends ? matcher.end : matcher.cost;
  }

  public int edition(int book, int place) throws IndexOutOfBoundsException {
    Quire quire = quireOf(book);
    if (quire == null || !quire.hasPlace(place)) throw new IndexOutOfBoundsException();
    Survey survey = quire.surveyed(false, facts);
    for (Leaf each : quire.members) {
      if (each != null && survey.seats[each.number] == 1 << place) return each.number;
    }
    return NONE;
  }

  public int state(int leaf, int line, int cell, int layer)
      throws IndexOutOfBoundsException, IllegalArgumentException {
    Leaf asked = leafOf(leaf);
    if (asked == null || asked.cellAt(line, cell) == null) throw new IndexOutOfBoundsException();
    if (!isLayer(layer)) throw new IllegalArgumentException();
    reader.read(asked, line, layer, words);
    reader.gatherLetters(words);
    return reader.standing(cell);
  }

  public int rests(int leaf) throws IndexOutOfBoundsException {
    Leaf asked = leafOf(leaf);
    if (asked == null) throw new IndexOutOfBoundsException();
    int seat = placesOf(asked, false);
    if (Integer.bitCount(seat) != 1) return 0;
    Survey survey = asked.quire.surveyedSparing(facts);
    int supports = 0;
    for (Fact each : facts) {
      if (each != null && (survey.sparedSeats(each.number, leaf) & ~seat) != 0) supports |= 1 << each.number;
    }
    return supports;
  }

  public int worth() {
    int best = NONE;
    int most = 0;
    for (Leaf each : leaves) {
      if (each == null) continue;
      int seats = placesOf(each, false);
      int value = each.mixedCells() * (seats == 0 ? 1 : Integer.bitCount(seats));
      if (value > most) {
        most = value;
        best = each.number;
      }
    }
    return best;
  }

  // ---- what the calls share

  private static boolean isWithin(int value, int least, int most) {
    return value >= least && value <= most;
  }

  private static boolean isLetter(int letter) {
    return letter >= 0 && letter < LETTERS;
  }

  private static boolean isLayer(int layer) {
    return layer >= 0 && layer <= MOST_LAYER;
  }

  private Quire quireOf(int book) {
    return book >= 0 && book < BOOKS && book < quires.length ? quires[book] : null;
  }

  private Leaf leafOf(int leaf) {
    return leaf >= 0 && leaf < leaves.length ? leaves[leaf] : null;
  }

  private Cell cellOf(int leaf, int line, int cell) {
    Leaf found = leafOf(leaf);
    return found == null ? null : found.cellAt(line, cell);
  }

  private int wordLikeDraft() {
    for (int i = 0; i < words.length; i++) {
      Text each = words[i];
      if (each != null && each.isSame(draft, draftLength)) return i;
    }
    return NONE;
  }

  private int placesOf(Leaf leaf, boolean all) {
    return leaf.quire.surveyed(all, facts).seats[leaf.number];
  }

  /** Each round carries the lowest number at least one leaf further, so as many rounds as leaves are enough. */
  private void settleHands() {
    for (int i = 0; i < lowest.length; i++) lowest[i] = i;
    for (int round = 0; round < MOST_LEAVES; round++) {
      for (Leaf each : leaves) {
        if (each != null) takeLowest(each);
      }
    }
  }

  private void takeLowest(Leaf leaf) {
    for (Leaf other : leaves) {
      if (other == null || lowest[other.number] >= lowest[leaf.number]) continue;
      if (leaf.isAlike(other)) lowest[leaf.number] = lowest[other.number];
    }
  }

  private int spansOf(Leaf leaf) {
    int group = sheetGroup(leaf.number);
    int spans = ALL_SPANS;
    for (Leaf each : leaves) {
      if (each != null && (group >> each.number & 1) == 1) spans &= each.spans;
    }
    return spans;
  }

  /** Each round goes at least one leaf further, so as many rounds as leaves are enough. */
  private int sheetGroup(int leaf) {
    int group = 1 << leaf;
    for (int round = 0; round < MOST_LEAVES; round++) {
      for (Fact each : facts) {
        if (each == null || each.kind != SHEET || !each.isCertain || !each.holds) continue;
        int pair = 1 << each.leaf | 1 << each.other;
        if ((group & pair) != 0) group |= pair;
      }
    }
    return group;
  }

  // ---- what the house keeps

  /** What each light takes for a measure of ink. */
  private static final class Lights {
    private final int[] over = {1, 1, 1};
    private final int[] under = {1, 1, 1};
  }

  /** A cell: its images, what they tell, and the letters that scholars give it. */
  private static final class Cell {
    private final int[] images = {NONE, NONE, NONE};
    private final int[] letters = new int[SCHOLARS * MOST_GIVEN];
    /** By slot, as letters; a slot with the weight 0 is free. */
    private final int[] weights = new int[SCHOLARS * MOST_GIVEN];
    private int over = NONE;
    private int under = NONE;

    private boolean isUnmixed() {
      return under != NONE;
    }

    private boolean isBlank() {
      return under == 0;
    }

    private void measure(Lights lights) {
      over = NONE;
      under = NONE;
      if (!isImaged()) return;
      int pairs = 0;
      for (int o = 0; o <= MOST_MEASURE; o++) {
        for (int u = 0; u <= MOST_MEASURE; u++) {
          if (!comesOf(lights, o, u)) continue;
          pairs++;
          over = o;
          under = u;
        }
      }
      if (pairs != 1) {
        over = NONE;
        under = NONE;
      }
    }

    private boolean isImaged() {
      for (int image : images) {
        if (image != NONE) return true;
      }
      return false;
    }

    private boolean comesOf(Lights lights, int o, int u) {
      for (int i = 0; i < LIGHTS; i++) {
        if (images[i] != NONE && images[i] != lights.over[i] * o + lights.under[i] * u) return false;
      }
      return true;
    }

    /** The slot with the letter, or else a free one of the scholar's; NONE if all have other letters. */
    private int slotFor(int scholar, int letter) {
      int free = NONE;
      for (int i = 0; i < MOST_GIVEN; i++) {
        int slot = scholar * MOST_GIVEN + i;
        if (weights[slot] == 0) free = slot;
        else if (letters[slot] == letter) return slot;
      }
      return free;
    }

    private void put(int slot, int letter, int weight) {
      letters[slot] = letter;
      weights[slot] = weight;
    }

    private int countOf(int scholar) {
      int count = 0;
      for (int i = 0; i < MOST_GIVEN; i++) {
        if (weights[scholar * MOST_GIVEN + i] != 0) count++;
      }
      return count;
    }

    /** Adds to the sums of the letters, from a start on, what the scholar gives. */
    private void addTo(int[] sums, int start, int scholar) {
      for (int i = 0; i < MOST_GIVEN; i++) {
        int slot = scholar * MOST_GIVEN + i;
        if (weights[slot] != 0) sums[start + letters[slot]] += weights[slot];
      }
    }
  }

  private static final class Leaf {
    private final int number;
    private final Quire quire;
    private final int lines;
    private final int width;
    private final Cell[] cells;
    private int front = NONE;
    private int worms = 0;
    private int first = 0;
    private int second = 0;
    private int third = 0;
    private int haste = 0;
    private int evidence = 0;
    private int spans = ALL_SPANS;

    private Leaf(int number, Quire quire, int lines, int width) {
      this.number = number;
      this.quire = quire;
      this.lines = lines;
      this.width = width;
      this.cells = new Cell[MOST_LINES * MOST_CELLS];
      for (int i = 0; i < lines * width && i < cells.length; i++) cells[i] = new Cell();
    }

    private boolean hasLine(int line) {
      return line >= 0 && line < lines;
    }

    private Cell cellAt(int line, int cell) {
      if (!hasLine(line) || cell < 0 || cell >= width) return null;
      return cells[line * width + cell];
    }

    private void measureAll(Lights lights) {
      for (Cell each : cells) {
        if (each != null) each.measure(lights);
      }
    }

    private int mixedCells() {
      int count = 0;
      for (Cell each : cells) {
        if (each != null && !each.isUnmixed()) count++;
      }
      return count;
    }

    private boolean isAlike(Leaf other) {
      int apart = Math.abs(first - other.first) + Math.abs(second - other.second) + Math.abs(third - other.third);
      return apart <= 6 + 2 * haste + 2 * other.haste;
    }

    private boolean isUnlikeFront(Leaf neighbour) {
      return front == NONE || neighbour.front == NONE || front != neighbour.front;
    }
  }

  /** A word of the lexicon, or a work. */
  private static final class Text {
    private final int[] letters;
    private final int length;

    private Text(int[] draft, int length) {
      this.letters = Arrays.copyOf(draft, length < 0 ? 0 : length);
      this.length = letters.length;
    }

    private boolean isSame(int[] draft, int draftLength) {
      if (draftLength != length || draftLength > draft.length) return false;
      for (int i = 0; i < length; i++) {
        if (letters[i] != draft[i]) return false;
      }
      return true;
    }
  }

  // ---- how lines are read and matched

  /** Reads one line at a time; what it found stays until the next line is read. */
  private static final class Reader {
    private int width = 0;
    private final boolean[] isBlank = new boolean[MOST_CELLS];
    /** By cell: how many letters the layer gives. */
    private final int[] given = new int[MOST_CELLS];
    /** By cell and letter: the sum of the weights. */
    private final int[] sums = new int[MOST_CELLS * LETTERS];
    /** By cell and word: the weight of the word that begins there; NONE if it cannot stand there. */
    private final int[] fits = new int[MOST_CELLS * MOST_WORDS];
    /** By cell: the greatest weight of all cells ahead of it; NONE if they cannot be read. */
    private final int[] ahead = new int[MOST_CELLS + 1];
    /** By cell: the greatest weight from it on; NONE if these cells cannot be read. */
    private final int[] onward = new int[MOST_CELLS + 1];
    /** By cell: in how many ways the cells from it on have that weight. */
    private final int[] ways = new int[MOST_CELLS + 1];
    /** By cell: the letters of the first best reading of the cells from it on. */
    private final int[][] firsts = new int[MOST_CELLS + 1][MOST_CELLS];
    /** By cell: the set of its letters in all best readings. */
    private final int[] found = new int[MOST_CELLS];

    private int bestWeight() {
      return onward[0];
    }

    private int bestCount() {
      return ways[0];
    }

    private int firstLetter(int cell) {
      if (cell < 0 || cell >= width || onward[0] == NONE) return NONE;
      return firsts[0][cell];
    }

    private void read(Leaf leaf, int line, int layer, Text[] words) {
      width = Math.min(leaf.width, MOST_CELLS);
      Arrays.fill(sums, 0);
      for (int cell = 0; cell < width; cell++) load(leaf.cellAt(line, cell), cell, layer);
      for (int cell = 0; cell < width; cell++) {
        for (int i = 0; i < MOST_WORDS && i < words.length; i++) fits[cell * MOST_WORDS + i] = fitOf(words[i], cell);
      }
      Arrays.fill(onward, NONE);
      Arrays.fill(ways, 0);
      onward[width] = 0;
      ways[width] = 1;
      for (int cell = width - 1; cell >= 0; cell--) readFrom(cell, words);
    }

    private void load(Cell from, int cell, int layer) {
      isBlank[cell] = from != null && from.isBlank();
      given[cell] = 0;
      if (from == null || isBlank[cell]) return;
      int start = cell * LETTERS;
      for (int scholar = 0; scholar < SCHOLARS; scholar++) {
        if ((layer >> scholar & 1) == 1) from.addTo(sums, start, scholar);
      }
      for (int letter = 0; letter < LETTERS; letter++) {
        if (sums[start + letter] > 0) given[cell]++;
      }
    }

    private int fitOf(Text word, int start) {
      if (word == null || start + word.length > width) return NONE;
      int sum = 0;
      for (int i = 0; i < word.length; i++) {
        int cell = start + i;
        if (isBlank[cell]) return NONE;
        int weight = sums[cell * LETTERS + word.letters[i]];
        if (weight == 0 && given[cell] > 0) return NONE;
        sum += weight;
      }
      return sum;
    }

    private void readFrom(int cell, Text[] words) {
      if (isBlank[cell]) {
        onward[cell] = onward[cell + 1];
        ways[cell] = ways[cell + 1];
        System.arraycopy(firsts[cell + 1], 0, firsts[cell], 0, MOST_CELLS);
        firsts[cell][cell] = NONE;
        return;
      }
      for (int i = 0; i < MOST_WORDS && i < words.length; i++) {
        Text word = words[i];
        int fit = fits[cell * MOST_WORDS + i];
        if (word != null && fit != NONE) tryWord(word, fit, cell);
      }
    }

    private void tryWord(Text word, int fit, int cell) {
      int end = cell + word.length;
      if (end > width || onward[end] == NONE) return;
      int weight = fit + onward[end];
      if (weight < onward[cell]) return;
      if (weight > onward[cell]) {
        onward[cell] = weight;
        ways[cell] = ways[end];
        makeFirst(word, cell, end);
      } else {
        ways[cell] += ways[end];
        if (isLower(word, cell, end)) makeFirst(word, cell, end);
      }
    }

    private void makeFirst(Text word, int cell, int end) {
      for (int i = cell; i < width; i++) firsts[cell][i] = i < end ? word.letters[i - cell] : firsts[end][i];
    }

    private boolean isLower(Text word, int cell, int end) {
      for (int i = cell; i < width; i++) {
        int letter = i < end ? word.letters[i - cell] : firsts[end][i];
        if (letter != firsts[cell][i]) return letter < firsts[cell][i];
      }
      return false;
    }

    /** Finds the letters of all best readings, which few calls ask for: so it stands apart from read. */
    private void gatherLetters(Text[] words) {
      Arrays.fill(ahead, NONE);
      Arrays.fill(found, 0);
      ahead[0] = 0;
      for (int cell = 0; cell < width; cell++) {
        if (ahead[cell] == NONE) continue;
        if (isBlank[cell]) ahead[cell + 1] = Math.max(ahead[cell + 1], ahead[cell]);
        for (int i = 0; i < MOST_WORDS && i < words.length; i++) {
          Text word = words[i];
          int fit = fits[cell * MOST_WORDS + i];
          if (word != null && fit != NONE) gatherWord(word, fit, cell);
        }
      }
    }

    /** The weight ahead of a cell is settled when its words are looked at, since words go forward only. */
    private void gatherWord(Text word, int fit, int cell) {
      int end = cell + word.length;
      if (end > width) return;
      int upTo = ahead[cell] + fit;
      ahead[end] = Math.max(ahead[end], upTo);
      if (onward[end] == NONE || upTo + onward[end] != onward[0]) return;
      for (int i = 0; i < word.length; i++) found[cell + i] |= 1 << word.letters[i];
    }

    private int standing(int cell) {
      if (cell < 0 || cell >= width || onward[0] == NONE) return LOST;
      if (isBlank[cell]) return BLANK;
      if (Integer.bitCount(found[cell]) > 1) return DOUBTFUL;
      if (given[cell] == 0) return RESTORED;
      return given[cell] == 1 ? SURE : READ;
    }
  }

  /** Finds the stretch of a work that a line costs least in. */
  private static final class Matcher {
    private int cost = 0;
    private int end = 0;
    /** By place of the work: the least cost of the letters of the line so far in a stretch that ends there. */
    private final int[] costs = new int[WORK_LETTERS + 1];

    private void align(Reader line, Text work) {
      Arrays.fill(costs, 0);
      for (int cell = 0; cell < line.width; cell++) {
        int letter = line.firstLetter(cell);
        if (letter != NONE) addLetter(letter, work);
      }
      cost = costs[0];
      end = 0;
      for (int i = 1; i <= work.length && i < costs.length; i++) {
        if (costs[i] < cost) {
          cost = costs[i];
          end = i;
        }
      }
    }

    private void addLetter(int letter, Text work) {
      int slant = costs[0];
      costs[0] += 2;
      for (int i = 1; i <= work.length && i < costs.length; i++) {
        int stands = slant + (work.letters[i - 1] == letter ? 0 : 1);
        slant = costs[i];
        costs[i] = Math.min(stands, Math.min(costs[i], costs[i - 1]) + 2);
      }
    }
  }

  // ---- how leaves stood

  private static final class Fact {
    private final int number;
    private final Quire quire;
    private final int kind;
    private final int leaf;
    private final int other;
    private final boolean isCertain;
    private boolean holds = true;

    private Fact(int number, Quire quire, int kind, int leaf, int other, boolean isCertain) {
      this.number = number;
      this.quire = quire;
      this.kind = kind;
      this.leaf = leaf;
      this.other = other;
      this.isCertain = isCertain;
    }

    private boolean isOf(int someLeaf) {
      return leaf == someLeaf || kind != AT && other == someLeaf;
    }
  }

  private static final class Quire {
    private int sheetCount = MOST_SHEETS;
    private final Leaf[] members = new Leaf[BOOK_LEAVES];
    private int size = 0;
    private final Survey certain = new Survey(false, false);
    private final Survey full = new Survey(true, false);
    private final Survey sparing = new Survey(false, true);

    private boolean hasRoom() {
      return size < members.length && size < 2 * sheetCount;
    }

    private boolean hasPlace(int place) {
      return place >= 0 && place < 2 * sheetCount;
    }

    private void take(Leaf leaf) {
      if (size >= members.length) return;
      members[size] = leaf;
      size++;
      forget();
    }

    /** To be called whenever what arrangements depend on changes. */
    private void forget() {
      certain.isFresh = false;
      full.isFresh = false;
      sparing.isFresh = false;
    }

    private Survey surveyed(boolean all, Fact[] facts) {
      Survey survey = all ? full : certain;
      if (!survey.isFresh) survey.make(this, facts);
      return survey;
    }

    private Survey surveyedSparing(Fact[] facts) {
      if (!sparing.isFresh) sparing.make(this, facts);
      return sparing;
    }
  }

  /** What all arrangements of a book that fit have in common; kept, as looking at all of them takes long. */
  private static final class Survey {
    private final boolean takesLikely;
    /** Whether arrangements that break just one fact are looked at too. */
    private final boolean sparesOne;
    private boolean isFresh = false;
    private int count = 0;
    /** By leaf: the set of its places. */
    private final int[] seats = new int[MOST_LEAVES];
    /** By two leaves: in how many arrangements they are of one sheet. */
    private final int[] joins = new int[MOST_LEAVES * MOST_LEAVES];
    /** By fact and leaf: the set of its places where that fact alone is broken. */
    private final int[] spared = new int[MOST_FACTS * MOST_LEAVES];
    private final Fact[] counting = new Fact[MOST_FACTS];
    private int countingSize = 0;
    private Leaf[] members = new Leaf[0];
    private int places = 0;
    /** By leaf: its place in the arrangement that is being made. */
    private final int[] placeOf = new int[MOST_LEAVES];
    /** By place: the leaf there; as placeOf, empty again when all has been looked at. */
    private final Leaf[] standing = new Leaf[MOST_PLACES];

    private Survey(boolean takesLikely, boolean sparesOne) {
      this.takesLikely = takesLikely;
      this.sparesOne = sparesOne;
    }

    private int joinsOf(int leaf, int other) {
      return joins[leaf * MOST_LEAVES + other];
    }

    private int sparedSeats(int fact, int leaf) {
      return spared[fact * MOST_LEAVES + leaf];
    }

    private void make(Quire quire, Fact[] facts) {
      count = 0;
      Arrays.fill(seats, 0);
      Arrays.fill(joins, 0);
      Arrays.fill(spared, 0);
      Arrays.fill(placeOf, NONE);
      members = quire.members;
      places = Math.min(2 * quire.sheetCount, MOST_PLACES);
      takeFacts(facts);
      seek(this, 0, quire.size, 0, 0, NONE);
      isFresh = true;
    }

    /** Facts of the other book may be among them: they name no leaf of this one, so they break nothing. */
    private void takeFacts(Fact[] facts) {
      countingSize = 0;
      for (Fact each : facts) {
        if (each == null || !each.holds || !each.isCertain && !takesLikely) continue;
        if (countingSize >= counting.length) continue;
        counting[countingSize] = each;
        countingSize++;
      }
    }

    /**
     * Fills the places in their order: so a wormhole that was open and is not in a leaf is closed for
     * all leaves behind it.
     */
    private static void seek(Survey survey, int place, int left, int open, int closed, int broken) {
      if (left == 0) {
        survey.keep(broken);
        return;
      }
      if (place >= survey.places || left > survey.places - place) return;
      seek(survey, place + 1, left, open, closed, broken);
      for (Leaf leaf : survey.members) {
        if (leaf == null || !survey.canStand(leaf, place, closed)) continue;
        survey.standing[place] = leaf;
        survey.placeOf[leaf.number] = place;
        int breaks = survey.brokenWith(leaf.number, broken);
        if (breaks != REFUSED) {
          seek(survey, place + 1, left - 1, open | leaf.worms, closed | open & ~leaf.worms, breaks);
        }
        survey.placeOf[leaf.number] = NONE;
        survey.standing[place] = null;
      }
    }

    private boolean canStand(Leaf leaf, int place, int closed) {
      if (placeOf[leaf.number] != NONE || (leaf.worms & closed) != 0) return false;
      Leaf before = place > 0 ? standing[place - 1] : null;
      return before == null || leaf.isUnlikeFront(before);
    }

    /** The fact that is broken when a leaf has been put; NONE without; REFUSED if that is more than is spared. */
    private int brokenWith(int leaf, int broken) {
      int breaks = broken;
      for (int i = 0; i < countingSize; i++) {
        Fact each = counting[i];
        if (each == null || !each.isOf(leaf) || !isBroken(each)) continue;
        if (!sparesOne || breaks != NONE) return REFUSED;
        breaks = each.number;
      }
      return breaks;
    }

    private boolean isBroken(Fact fact) {
      int here = placeOf[fact.leaf];
      if (fact.kind == AT) return here != fact.other;
      int there = placeOf[fact.other];
      // Of two leaves, nothing is known before both are put.
      if (here == NONE || there == NONE) return false;
      switch (fact.kind) {
        case SHEET:
          return here + there != places - 1;
        case NEXT:
          return there != here + 1;
        case AHEAD:
          return here >= there;
        default:
          return here + there == places - 1;
      }
    }

    private void keep(int broken) {
      if (broken == NONE) keepFit();
      else keepSpared(broken);
    }

    private void keepFit() {
      count++;
      for (Leaf each : members) {
        if (each != null) seats[each.number] |= 1 << placeOf[each.number];
      }
      for (int place = 0; place < places; place++) {
        Leaf leaf = standing[place];
        Leaf other = standing[places - 1 - place];
        if (leaf != null && other != null) joins[leaf.number * MOST_LEAVES + other.number]++;
      }
    }

    private void keepSpared(int fact) {
      for (Leaf each : members) {
        if (each != null) spared[fact * MOST_LEAVES + each.number] |= 1 << placeOf[each.number];
      }
    }
  }
}
