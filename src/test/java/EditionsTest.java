/** Promises 23 to 27: works matched, editions, how cells stand, what leaves rest on, what is worth an image. */
public final class EditionsTest {
  private static final int NONE = Undertext.NONE;
  private static final int SHEET = Undertext.SHEET;
  private static final int NEXT = Undertext.NEXT;
  private static final int AHEAD = Undertext.AHEAD;
  private static final int AT = Undertext.AT;
  private static final int APART = Undertext.APART;
  private static final Due due = new Due("EditionsTest");

  public static void main(String[] args) {
    matches();
    matchEdges();
    edition();
    states();
    statesByLayer();
    statesPastBlanks();
    rests();
    restsOnOneOfTwo();
    worth();
    worthByImages();
    due.end();
  }

  private static Undertext withWork(int[] work, int... line) {
    Undertext x = new Undertext();
    x.leaf(0, 1, line.length, NONE, 0);
    ReadingsTest.put(x, line);
    for (int each : work) x.type(each);
    x.work();
    return x;
  }

  private static void matched(int cost, int end, int[] work, int... line) {
    Undertext x = withWork(work, line);
    due.is(cost, "the cost in " + java.util.Arrays.toString(work), () -> x.match(0, 0, 0, 0, false));
    due.is(end, "the end in " + java.util.Arrays.toString(work), () -> x.match(0, 0, 0, 0, true));
  }

  private static void matches() {
    int[] work = {1, 2, 3, 4, 1, 2, 3, 5};
    matched(0, 3, work, 1, 2, 3);
    matched(0, 8, work, 2, 3, 5);
    matched(1, 3, work, 1, 9, 3);
    matched(1, 8, work, 9, 3, 5);
    matched(2, 3, work, 1, 2, 9, 3);
    matched(1, 3, work, 1, 2, 4);
    matched(2, 5, new int[] {1, 2, 7, 3, 4}, 2, 2, 3, 9);
    matched(2, 4, new int[] {1, 2, 7, 3, 4}, 1, 2, 3, 4);
    matched(2, 4, new int[] {1, 2, 8, 8, 3, 4}, 1, 2, 3, 4);
    matched(2, 7, new int[] {1, 2, 3, 9, 4, 5, 6}, 1, 2, 3, 4, 5, 6);
    matched(2, 7, new int[] {0, 1, 2, 3, 4, 5, 6}, 1, 2, 3, 9, 4, 5, 6);
  }

  private static void matchEdges() {
    matched(1, 1, new int[] {5}, 6);
    matched(3, 1, new int[] {5}, 6, 7);
    matched(14, 1, new int[] {5}, 5, 6, 6, 6, 6, 6, 6, 6);
    matched(15, 1, new int[] {5}, 6, 6, 6, 6, 6, 6, 6, 6);
    matched(2, 2, new int[] {5, 5}, 6, 6);
    matched(2, 1, new int[] {5}, 6, 5);
    matched(4, 1, new int[] {5}, 6, 7, 5);
    int[] longest = new int[40];
    longest[38] = 1;
    longest[39] = 2;
    matched(0, 40, longest, 1, 2);
    Undertext x = withWork(new int[] {1, 3}, 1);
    x.leaf(0, 1, 3, NONE, 0);
    ReadingsTest.put(x, 3);
    x.give(0, 1, 0, 0, 1, 1);
    x.give(0, 1, 0, 2, 3, 1);
    x.image(1, 0, 1, 0, 0);
    due.is(0, "letters on both sides of a BLANK cell are one behind the other", () -> x.match(0, 1, 0, 1, false));
    due.is(2, "their end", () -> x.match(0, 1, 0, 1, true));
    x.give(0, 1, 0, 0, 2, 9);
    x.give(0, 1, 0, 2, 9, 9);
    due.is(0, "the first best reading alone", () -> x.match(0, 1, 0, 1, false));
    ReadingsTest.put(x, 9);
    due.is(1, "which is by weight", () -> x.match(0, 1, 0, 1, false));
    x.give(0, 1, 0, 0, 1, 0);
    due.is(NONE, "a line that cannot be read", () -> x.match(0, 1, 0, 1, false));
    due.is(NONE, "nor ends", () -> x.match(0, 1, 0, 1, true));
    x.image(1, 0, 0, 0, 0);
    x.image(1, 0, 2, 0, 0);
    due.is(0, "BLANK cells alone cost nothing", () -> x.match(0, 1, 0, 1, false));
    due.is(0, "and end at the first place", () -> x.match(0, 1, 0, 1, true));
  }

  private static void edition() {
    Undertext x = QuiresTest.bookOf(3, 2);
    x.leaf(1, 1, 1, NONE, 0);
    x.sheets(1, 1);
    x.fact(AT, 0, 3, true);
    x.fact(AT, 1, 1, false);
    x.fact(AT, 3, 0, true);
    due.is(0, "a leaf that is placed", () -> x.edition(0, 3));
    due.is(NONE, "LIKELY does not place", () -> x.edition(0, 1));
    due.is(NONE, "the place of none", () -> x.edition(0, 0));
    due.is(3, "the other book's", () -> x.edition(1, 0));
    x.fact(SHEET, 0, 2, true);
    due.is(2, "placed by the other one", () -> x.edition(0, 0));
    due.is(Due.INDEX, "place 4", () -> x.edition(0, 4));
    due.is(Due.INDEX, "place -1", () -> x.edition(0, -1));
    due.is(Due.INDEX, "place 2 of one sheet", () -> x.edition(1, 2));
    due.is(Due.INDEX, "book 2", () -> x.edition(2, 0));
    due.is(Due.INDEX, "book -1", () -> x.edition(-1, 0));
    x.fact(APART, 0, 2, true);
    for (int i = 0; i < 4; i++) {
      int place = i;
      due.is(NONE, "no arrangement, place " + place, () -> x.edition(0, place));
    }
    x.hold(4, false);
    x.sheets(0, 3);
    due.is(0, "more places, the same one", () -> x.edition(0, 3));
    due.is(2, "the sheet is another one then", () -> x.edition(0, 2));
    due.is(NONE, "a place that came", () -> x.edition(0, 5));
  }

  private static void states() {
    Undertext x = new Undertext();
    x.leaf(0, 2, 4, NONE, 0);
    due.is(Undertext.LOST, "no lexicon", () -> x.state(0, 0, 0, 1));
    x.image(0, 0, 3, 0, 0);
    due.is(Undertext.LOST, "a BLANK cell of a line that cannot be read", () -> x.state(0, 0, 3, 1));
    ReadingsTest.put(x, 1, 2, 3);
    due.is(Undertext.BLANK, "a BLANK cell of one that can", () -> x.state(0, 0, 3, 1));
    due.is(Undertext.RESTORED, "what is not given", () -> x.state(0, 0, 0, 1));
    x.give(0, 0, 0, 0, 1, 1);
    due.is(Undertext.SURE, "what is given alone", () -> x.state(0, 0, 0, 1));
    x.give(0, 0, 0, 0, 5, 9);
    due.is(Undertext.READ, "what is given beside others", () -> x.state(0, 0, 0, 1));
    due.is(Undertext.RESTORED, "the cell behind it", () -> x.state(0, 0, 1, 1));
    ReadingsTest.put(x, 1, 4, 3);
    due.is(Undertext.READ, "the same in both readings", () -> x.state(0, 0, 0, 1));
    due.is(Undertext.DOUBTFUL, "unlike ones", () -> x.state(0, 0, 1, 1));
    due.is(Undertext.RESTORED, "the same in both, given by none", () -> x.state(0, 0, 2, 1));
    x.give(0, 0, 0, 1, 2, 3);
    x.give(0, 0, 0, 1, 4, 2);
    due.is(Undertext.READ, "the weightier one", () -> x.state(0, 0, 1, 1));
    x.give(0, 0, 0, 1, 4, 3);
    due.is(Undertext.DOUBTFUL, "as weighty", () -> x.state(0, 0, 1, 1));
    x.give(0, 0, 0, 1, 2, 0);
    due.is(Undertext.SURE, "one of them alone", () -> x.state(0, 0, 1, 1));
    due.is(Undertext.LOST, "the other line", () -> x.state(0, 1, 3, 1));
    ReadingsTest.put(x, 1);
    due.is(Undertext.DOUBTFUL, "the other line by more words", () -> x.state(0, 1, 1, 1));
    due.is(Undertext.DOUBTFUL, "b b b b or b b c d: the last", () -> x.state(0, 1, 3, 1));
    due.is(Undertext.RESTORED, "all begin with b", () -> x.state(0, 1, 0, 1));
  }

  private static void statesByLayer() {
    Undertext x = new Undertext();
    x.leaf(0, 1, 1, NONE, 0);
    ReadingsTest.put(x, 1);
    ReadingsTest.put(x, 2);
    x.give(0, 0, 0, 0, 1, 2);
    x.give(1, 0, 0, 0, 1, 1);
    x.give(2, 0, 0, 0, 2, 3);
    int[] states = {Undertext.DOUBTFUL, Undertext.SURE, Undertext.SURE, Undertext.SURE,
      Undertext.SURE, Undertext.READ, Undertext.READ, Undertext.DOUBTFUL};
    for (int i = 0; i < 8; i++) {
      int layer = i;
      due.is(states[layer], "the state by layer " + layer, () -> x.state(0, 0, 0, layer));
    }
    Undertext y = new Undertext();
    y.leaf(0, 1, 3, NONE, 0);
    ReadingsTest.put(y, 1, 1);
    ReadingsTest.put(y, 1);
    y.give(0, 0, 0, 0, 1, 1);
    due.is(Undertext.SURE, "unlike words of the same letters", () -> y.state(0, 0, 0, 1));
    due.is(Undertext.RESTORED, "unlike words, the same letters, not given", () -> y.state(0, 0, 1, 1));
    ReadingsTest.put(y, 2, 1, 1);
    due.is(Undertext.SURE, "a reading that does not fit", () -> y.state(0, 0, 0, 1));
    due.is(Undertext.DOUBTFUL, "but fits another layer", () -> y.state(0, 0, 0, 2));
  }

  private static void statesPastBlanks() {
    Undertext x = new Undertext();
    x.leaf(0, 1, 5, NONE, 0);
    ReadingsTest.put(x, 1, 2);
    ReadingsTest.put(x, 1, 3);
    x.image(0, 0, 2, 0, 0);
    int[] states = {Undertext.RESTORED, Undertext.DOUBTFUL, Undertext.BLANK, Undertext.RESTORED, Undertext.DOUBTFUL};
    for (int i = 0; i < 5; i++) {
      int cell = i;
      due.is(states[cell], "nothing given, cell " + cell, () -> x.state(0, 0, cell, 7));
    }
    x.give(0, 0, 0, 1, 2, 4);
    x.give(0, 0, 0, 4, 3, 5);
    x.give(1, 0, 0, 4, 2, 2);
    int[] then = {Undertext.RESTORED, Undertext.SURE, Undertext.BLANK, Undertext.RESTORED, Undertext.READ};
    for (int i = 0; i < 5; i++) {
      int cell = i;
      due.is(then[cell], "given ahead and behind, cell " + cell, () -> x.state(0, 0, cell, 7));
    }
    Undertext y = new Undertext();
    y.leaf(0, 1, 4, NONE, 0);
    ReadingsTest.put(y, 1, 2);
    ReadingsTest.put(y, 3);
    ReadingsTest.put(y, 4, 4, 4);
    y.give(0, 0, 0, 0, 3, 1);
    y.give(0, 0, 0, 0, 1, 1);
    y.give(0, 0, 0, 3, 2, 1);
    due.is(Undertext.DOUBTFUL, "b c b c, d d b c: the first", () -> y.state(0, 0, 0, 1));
    due.is(Undertext.DOUBTFUL, "the second", () -> y.state(0, 0, 1, 1));
    due.is(Undertext.RESTORED, "the third", () -> y.state(0, 0, 2, 1));
    due.is(Undertext.SURE, "the last", () -> y.state(0, 0, 3, 1));
  }

  private static void rests() {
    Undertext x = QuiresTest.bookOf(3, 2);
    x.leaf(1, 1, 1, NONE, 0);
    due.is(0, "not placed", () -> x.rests(0));
    x.fact(AT, 3, 7, true);
    x.fact(AT, 0, 3, true);
    due.is(0b10, "on the fact of its place", () -> x.rests(0));
    due.is(0b01, "a leaf of the other book", () -> x.rests(3));
    x.fact(SHEET, 1, 0, true);
    due.is(0b110, "on both that place it", () -> x.rests(1));
    due.is(0b010, "but the first one on its own", () -> x.rests(0));
    due.is(0, "the third one is not placed", () -> x.rests(2));
    x.fact(NEXT, 1, 2, false);
    due.is(0, "nor by a LIKELY one", () -> x.rests(2));
    x.fact(AHEAD, 2, 1, true);
    due.is(0, "no arrangement, nothing placed", () -> x.rests(0));
    x.hold(4, false);
    x.fact(NEXT, 1, 2, true);
    due.is(0b100110, "on all three", () -> x.rests(2));
    x.hold(1, false);
    due.is(0, "one of them fell", () -> x.rests(2));
    due.is(Due.INDEX, "rests of leaf 4", () -> x.rests(4));
    due.is(Due.INDEX, "rests of leaf -1", () -> x.rests(-1));
  }

  private static void restsOnOneOfTwo() {
    Undertext x = QuiresTest.bookOf(2, 2);
    x.fact(AT, 0, 2, true);
    x.fact(AT, 0, 2, true);
    due.is(0, "each is enough without the other", () -> x.rests(0));
    due.is(0, "placed all the same", () -> x.edition(0, 2));
    x.hold(0, false);
    due.is(0b10, "one fell", () -> x.rests(0));
    x.fact(AHEAD, 1, 0, true);
    x.fact(AHEAD, 1, 0, true);
    x.fact(APART, 1, 0, true);
    due.is(0b10010, "on the place and that they are apart", () -> x.rests(1));
    Undertext y = QuiresTest.bookOf(2, 1);
    y.fact(AHEAD, 0, 1, true);
    due.is(1, "the first one rests on being ahead", () -> y.rests(0));
    due.is(1, "the second one too", () -> y.rests(1));
    y.fact(AT, 1, 1, true);
    due.is(0, "either will do", () -> y.rests(1));
  }

  private static void worth() {
    Undertext x = new Undertext();
    due.is(NONE, "no leaves", x::worth);
    x.leaf(0, 1, 4, NONE, 0);
    due.is(0, "one leaf: 4 times 8", x::worth);
    x.sheets(1, 2);
    x.leaf(1, 2, 4, NONE, 0);
    due.is(0, "as much: 8 times 4, the lowest", x::worth);
    x.leaf(1, 3, 3, NONE, 0);
    due.is(2, "more: 9 times 4", x::worth);
    x.fact(AT, 2, 3, false);
    due.is(2, "LIKELY does not count", x::worth);
    x.fact(AT, 2, 3, true);
    due.is(0, "one place for 9, three for 8, eight for 4", x::worth);
    x.fact(AT, 0, 3, true);
    due.is(1, "one place for 4", x::worth);
    x.fact(SHEET, 1, 2, true);
    due.is(2, "one place for each", x::worth);
    x.fact(APART, 1, 2, true);
    due.is(2, "no arrangement counts as one place", x::worth);
    x.hold(2, false);
    due.is(0, "one of eight places", x::worth);
  }

  private static void worthByImages() {
    Undertext x = new Undertext();
    x.sheets(0, 1);
    x.leaf(0, 1, 2, NONE, 0);
    x.leaf(0, 2, 1, NONE, 0);
    due.is(0, "alike", x::worth);
    x.image(0, 0, 1, 0, 18);
    due.is(1, "one cell is unmixed", x::worth);
    x.image(1, 1, 0, 0, 5);
    due.is(1, "an image that does not unmix", x::worth);
    x.image(1, 1, 0, 1, 0);
    due.is(1, "images that do not agree", x::worth);
    x.image(1, 1, 0, 0, 0);
    due.is(0, "a BLANK cell is unmixed", x::worth);
    x.image(0, 0, 0, 0, 0);
    due.is(1, "one cell is left", x::worth);
    x.image(1, 0, 0, 0, 18);
    due.is(NONE, "all are unmixed", x::worth);
    Undertext y = new Undertext();
    y.leaf(0, 1, 1, NONE, 0);
    y.fact(AT, 0, 0, true);
    due.is(0, "one cell, one place", y::worth);
    y.leaf(0, 1, 2, NONE, 0);
    y.leaf(1, 1, 3, NONE, 0);
    y.fact(AT, 1, 0, true);
    y.fact(AT, 2, 7, true);
    due.is(2, "three at one place, against two at no place", y::worth);
    x.image(0, 0, 1, 0, NONE);
    due.is(0, "an image is taken away", x::worth);
  }
}
