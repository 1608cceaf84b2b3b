/** Promises 7 to 13: letters, the draft, words, works, and how lines are read. */
public final class ReadingsTest {
  private static final int NONE = Undertext.NONE;
  private static final Due due = new Due("ReadingsTest");

  public static void main(String[] args) {
    give();
    type();
    word();
    wordsFull();
    work();
    weights();
    layers();
    blanks();
    manyReadings();
    firstReading();
    due.end();
  }

  static int put(Undertext x, int... letters) {
    for (int each : letters) x.type(each);
    return x.word();
  }

  private static Undertext withLeaf(int cells) {
    Undertext x = new Undertext();
    x.leaf(0, 1, cells, NONE, 0);
    return x;
  }

  private static void give() {
    Undertext x = withLeaf(2);
    due.is(0, "nothing taken back", () -> x.give(0, 0, 0, 0, 4, 0));
    due.is(1, "one letter", () -> x.give(0, 0, 0, 0, 4, 9));
    due.is(1, "the same letter again", () -> x.give(0, 0, 0, 0, 4, 2));
    due.is(2, "another letter", () -> x.give(0, 0, 0, 0, 25, 1));
    due.is(3, "a third letter", () -> x.give(0, 0, 0, 0, 0, 1));
    due.is(1, "another scholar's", () -> x.give(2, 0, 0, 0, 7, 1));
    due.is(1, "another cell's", () -> x.give(0, 0, 0, 1, 7, 1));
    due.is(3, "one of three with a new weight", () -> x.give(0, 0, 0, 0, 25, 5));
    due.is(2, "one of three taken back", () -> x.give(0, 0, 0, 0, 4, 0));
    due.is(2, "taken back once more", () -> x.give(0, 0, 0, 0, 4, 0));
    due.is(3, "another in its place", () -> x.give(0, 0, 0, 0, 9, 3));
    put(x, 25);
    put(x, 7);
    due.is(5 + 1, "the new weight counts", () -> x.weight(0, 0, 1));
    int[] three = {0, 9, 25};
    for (int i = 0; i < 3; i++) {
      for (int each : three) x.give(0, 0, 0, 0, each, each == three[i % 3] ? 9 : 0);
      for (int each : three) x.give(0, 0, 0, 0, each, each == three[i % 3] ? 9 : 4);
      put(x, three[i]);
      int n = i;
      due.is(9 + 1, "each of three letters counts: " + three[n], () -> x.weight(0, 0, 1));
      due.is(three[n], "the one with the greatest weight", () -> x.letter(0, 0, 0, 1));
    }
  }

  private static void type() {
    Undertext x = new Undertext();
    due.is(Due.ARGUMENT, "letter 26", () -> x.type(26));
    due.is(Due.ARGUMENT, "letter -1", () -> x.type(-1));
    for (int i = 1; i <= 40; i++) {
      int n = i;
      due.is(n, "letter " + n + " of the draft", () -> x.type(n % 26));
    }
    due.is(Due.STATE, "a letter too many", () -> x.type(0));
    due.is(Due.ARGUMENT, "a bad letter too many", () -> x.type(26));
    due.is(Due.STATE, "no word of 40", x::word);
    due.is(Due.STATE, "the draft is still full", () -> x.type(0));
    due.is(0, "a work of 40", x::work);
    due.is(1, "the draft is empty then", () -> x.type(0));
  }

  private static void word() {
    Undertext x = withLeaf(1);
    due.is(Due.STATE, "an empty word", x::word);
    due.is(0, "a word", () -> put(x, 1, 2, 3));
    due.is(1, "a longer one", () -> put(x, 1, 2, 3, 4));
    due.is(2, "a shorter one", () -> put(x, 1, 2));
    due.is(3, "one with other letters", () -> put(x, 1, 2, 4));
    due.is(0, "the same", () -> put(x, 1, 2, 3));
    due.is(1, "the draft is empty after it", () -> x.type(5));
    for (int i = 2; i <= 8; i++) x.type(5);
    due.is(9, "a ninth letter", () -> x.type(5));
    due.is(Due.STATE, "a word of nine", x::word);
    due.is(10, "the draft is kept", () -> x.type(5));
    x.work();
    due.is(4, "a word of eight", () -> put(x, 5, 5, 5, 5, 5, 5, 5, 5));
    due.is(NONE, "no word fits", () -> x.weight(0, 0, 0));
    due.is(5, "a word of one", () -> put(x, 25));
    due.is(25, "the word that fits", () -> x.letter(0, 0, 0, 0));
  }

  private static void wordsFull() {
    Undertext x = new Undertext();
    for (int i = 0; i < 12; i++) {
      int n = i;
      due.is(n, "word " + n, () -> put(x, n));
    }
    due.is(Due.STATE, "a thirteenth word", () -> put(x, 12));
    due.is(2, "its draft is kept", () -> x.type(3));
    x.work();
    due.is(11, "the same as the last", () -> put(x, 11));
    due.is(0, "the same as the first", () -> put(x, 0));
    due.is(1, "the draft is empty", () -> x.type(0));
  }

  private static void work() {
    Undertext x = withLeaf(1);
    due.is(Due.STATE, "an empty work", x::work);
    for (int i = 0; i < 4; i++) {
      int n = i;
      x.type(1);
      due.is(n, "work " + n + ", all the same", x::work);
      due.is(Due.STATE, "its draft is empty", x::work);
    }
    x.type(1);
    due.is(Due.STATE, "a fifth work", x::work);
    due.is(2, "its draft is kept", () -> x.type(1));
    due.is(0, "and can be a word", x::word);
  }

  private static void weights() {
    Undertext x = withLeaf(4);
    due.is(NONE, "no lexicon", () -> x.weight(0, 0, 7));
    due.is(0, "no readings of no lexicon", () -> x.readings(0, 0, 7));
    put(x, 0, 1);
    put(x, 2, 1);
    put(x, 0, 1, 2, 1);
    put(x, 1);
    x.give(0, 0, 0, 0, 0, 3);
    x.give(0, 0, 0, 0, 2, 4);
    x.give(0, 0, 0, 2, 2, 5);
    due.is(4 + 5, "the weightiest", () -> x.weight(0, 0, 1));
    due.is(1, "there is one", () -> x.readings(0, 0, 1));
    due.is(2, "its first letter", () -> x.letter(0, 0, 0, 1));
    due.is(1, "its last letter", () -> x.letter(0, 0, 3, 1));
    x.give(0, 0, 0, 0, 0, 4);
    due.is(4 + 5, "two as weighty", () -> x.weight(0, 0, 1));
    due.is(3, "as words: ab cb, abcb, cb cb", () -> x.readings(0, 0, 1));
    due.is(0, "the first of them has the lowest letters", () -> x.letter(0, 0, 0, 1));
    x.give(0, 0, 0, 1, 0, 9);
    due.is(NONE, "a letter that no word has there", () -> x.weight(0, 0, 1));
    due.is(0, "no readings", () -> x.readings(0, 0, 1));
    due.is(NONE, "no letters", () -> x.letter(0, 0, 0, 1));
    due.is(0, "unless the layer does not give it", () -> x.weight(0, 0, 2));
  }

  private static void layers() {
    Undertext x = withLeaf(1);
    put(x, 1);
    put(x, 2);
    put(x, 3);
    x.give(0, 0, 0, 0, 1, 4);
    x.give(1, 0, 0, 0, 2, 3);
    x.give(2, 0, 0, 0, 2, 2);
    x.give(2, 0, 0, 0, 3, 9);
    int[] weights = {0, 4, 3, 4, 9, 9, 9, 9};
    int[] letters = {1, 1, 2, 1, 3, 3, 3, 3};
    int[] counts = {3, 1, 1, 1, 1, 1, 1, 1};
    for (int i = 0; i < 8; i++) {
      int layer = i;
      due.is(weights[layer], "the weight by layer " + layer, () -> x.weight(0, 0, layer));
      due.is(letters[layer], "the letter by layer " + layer, () -> x.letter(0, 0, 0, layer));
      due.is(counts[layer], "the readings by layer " + layer, () -> x.readings(0, 0, layer));
    }
    x.give(2, 0, 0, 0, 3, 0);
    due.is(5, "two scholars' weights are one sum", () -> x.weight(0, 0, 7));
    due.is(2, "and outweigh a third", () -> x.letter(0, 0, 0, 7));
  }

  private static void blanks() {
    Undertext x = withLeaf(4);
    put(x, 0, 1);
    x.give(0, 0, 0, 2, 5, 9);
    due.is(NONE, "a letter that no word has", () -> x.weight(0, 0, 7));
    x.image(0, 0, 2, 0, 0);
    due.is(NONE, "one cell is left behind the BLANK one", () -> x.weight(0, 0, 7));
    put(x, 1);
    due.is(0, "ab, BLANK, b", () -> x.weight(0, 0, 7));
    due.is(2, "two readings: ab or b b ahead of it", () -> x.readings(0, 0, 7));
    due.is(NONE, "the letter of a BLANK cell", () -> x.letter(0, 0, 2, 7));
    due.is(1, "the letter behind it", () -> x.letter(0, 0, 3, 7));
    x.image(0, 0, 0, 0, 0);
    due.is(1, "BLANK, b, BLANK, b", () -> x.readings(0, 0, 7));
    x.image(0, 0, 1, 0, 0);
    x.image(0, 0, 3, 0, 0);
    due.is(0, "BLANK cells alone", () -> x.weight(0, 0, 7));
    due.is(1, "are read as no words", () -> x.readings(0, 0, 7));
    due.is(NONE, "and have no letters", () -> x.letter(0, 0, 0, 7));
    x.light(0, 1, 0);
    due.is(NONE, "another light, and no cell is BLANK", () -> x.weight(0, 0, 7));
    Undertext y = withLeaf(2);
    y.image(0, 0, 0, 0, 0);
    y.image(0, 0, 1, 0, 0);
    due.is(0, "BLANK cells alone without a lexicon", () -> y.weight(0, 0, 0));
    due.is(1, "are read too", () -> y.readings(0, 0, 0));
  }

  private static void manyReadings() {
    Undertext x = withLeaf(8);
    for (int i = 0; i < 12; i++) put(x, i);
    due.is(429981696, "12 to the power of 8", () -> x.readings(0, 0, 0));
    x.give(0, 0, 0, 3, 11, 1);
    due.is(429981696 / 12, "12 to the power of 7", () -> x.readings(0, 0, 1));
    due.is(1, "with a weight", () -> x.weight(0, 0, 1));
    for (int i = 0; i < 8; i++) {
      for (int scholar = 0; scholar < 3; scholar++) x.give(scholar, 0, 0, i, 11, 9);
    }
    due.is(8 * 27, "the greatest weight", () -> x.weight(0, 0, 7));
    due.is(1, "has one reading", () -> x.readings(0, 0, 7));
    Undertext y = withLeaf(3);
    put(y, 0);
    put(y, 0, 0);
    put(y, 0, 0, 0);
    due.is(4, "the same letters in unlike words: a a a, aa a, a aa, aaa", () -> y.readings(0, 0, 0));
  }

  private static void firstReading() {
    Undertext x = withLeaf(3);
    put(x, 3);
    put(x, 1, 9);
    put(x, 1, 2, 25);
    put(x, 1);
    due.is(1, "cell 0", () -> x.letter(0, 0, 0, 0));
    due.is(1, "cell 1: b b b is lower than b c z", () -> x.letter(0, 0, 1, 0));
    due.is(1, "cell 2", () -> x.letter(0, 0, 2, 0));
    x.give(0, 0, 0, 1, 2, 1);
    due.is(2, "cell 1 as given", () -> x.letter(0, 0, 1, 1));
    due.is(25, "cell 2 behind it", () -> x.letter(0, 0, 2, 1));
    x.give(0, 0, 0, 1, 9, 1);
    due.is(2, "b c z is lower than b j b", () -> x.letter(0, 0, 1, 1));
    x.give(1, 0, 0, 2, 3, 1);
    due.is(9, "weight goes before letters: b j d", () -> x.letter(0, 0, 1, 3));
    due.is(3, "its last letter", () -> x.letter(0, 0, 2, 3));
    due.is(2, "its weight", () -> x.weight(0, 0, 3));
  }
}
