/** Promises 14 to 18: facts, arrangements, places, joins. */
public final class QuiresTest {
  private static final int NONE = Undertext.NONE;
  private static final int HAIR = Undertext.HAIR;
  private static final int FLESH = Undertext.FLESH;
  private static final int SHEET = Undertext.SHEET;
  private static final int NEXT = Undertext.NEXT;
  private static final int AHEAD = Undertext.AHEAD;
  private static final int AT = Undertext.AT;
  private static final int APART = Undertext.APART;
  private static final Due due = new Due("QuiresTest");

  public static void main(String[] args) {
    factsFull();
    factsOfOneBook();
    hold();
    kinds();
    likely();
    worms();
    fronts();
    arrangements();
    places();
    fewerSheets();
    joined();
    books();
    due.end();
  }

  /** A book of leaves of which nothing is known. */
  static Undertext bookOf(int leaves, int sheets) {
    Undertext x = new Undertext();
    x.sheets(0, sheets);
    for (int i = 0; i < leaves; i++) x.leaf(0, 1, 1, NONE, 0);
    return x;
  }

  private static void factsFull() {
    Undertext x = bookOf(2, 4);
    x.leaf(1, 1, 1, NONE, 0);
    for (int i = 0; i < 12; i++) {
      int n = i;
      due.is(n, "fact " + n, () -> n % 2 == 0 ? x.fact(AHEAD, 0, 1, true) : x.fact(AT, 2, 3, n > 6));
    }
    due.is(Due.STATE, "a thirteenth fact", () -> x.fact(APART, 0, 1, true));
    due.is(Due.STATE, "a thirteenth fact at a place", () -> x.fact(AT, 0, 1, true));
    due.is(Due.INDEX, "a thirteenth fact at no place", () -> x.fact(AT, 0, 8, true));
    due.is(Due.ARGUMENT, "a thirteenth fact of two books", () -> x.fact(SHEET, 0, 2, true));
    x.hold(0, false);
    due.is(Due.STATE, "a fact that fell makes no room", () -> x.fact(APART, 0, 1, true));
    due.is(28, "all of the same kind", () -> x.arrangements(0, true));
    due.is(1, "all at the same place", () -> x.arrangements(1, true));
  }

  private static void factsOfOneBook() {
    Undertext x = bookOf(6, 4);
    for (int i = 0; i < 11; i++) x.fact(AHEAD, 0, 1, true);
    due.is(20160 / 2, "eleven facts", () -> x.arrangements(0, true));
    due.is(11, "the twelfth", () -> x.fact(AHEAD, 2, 3, true));
    due.is(20160 / 4, "it counts", () -> x.arrangements(0, true));
    due.is(20160 / 4, "and again", () -> x.arrangements(0, false));
    due.is(true, "it held", () -> x.hold(11, false));
    due.is(20160 / 2, "it fell", () -> x.arrangements(0, false));
  }

  private static void hold() {
    Undertext x = bookOf(2, 1);
    x.fact(AHEAD, 0, 1, true);
    due.is(1, "a fact holds when told", () -> x.arrangements(0, false));
    due.is(true, "it held", () -> x.hold(0, false));
    due.is(2, "it fell", () -> x.arrangements(0, false));
    due.is(false, "it did not hold", () -> x.hold(0, false));
    due.is(2, "it is still fallen", () -> x.arrangements(0, false));
    due.is(false, "it did not hold till now", () -> x.hold(0, true));
    due.is(1, "it holds again", () -> x.arrangements(0, false));
    due.is(true, "it held again", () -> x.hold(0, true));
  }

  private static void kinds() {
    Undertext sheet = bookOf(2, 3);
    sheet.fact(SHEET, 0, 1, true);
    due.is(6, "of one sheet: 0 5, 1 4, 2 3 and back", () -> sheet.arrangements(0, true));
    Undertext next = bookOf(2, 3);
    next.fact(NEXT, 1, 0, true);
    due.is(5, "right behind", () -> next.arrangements(0, true));
    due.is(0b111110, "the one behind", () -> next.places(0, true));
    due.is(0b011111, "the one ahead", () -> next.places(1, true));
    Undertext ahead = bookOf(2, 3);
    ahead.fact(AHEAD, 1, 0, true);
    due.is(15, "ahead", () -> ahead.arrangements(0, true));
    due.is(0b111110, "the hind one", () -> ahead.places(0, true));
    Undertext at = bookOf(2, 3);
    at.fact(AT, 1, 5, true);
    due.is(5, "at the last place", () -> at.arrangements(0, true));
    due.is(1 << 5, "that place", () -> at.places(1, true));
    due.is(0b011111, "the places that are left", () -> at.places(0, true));
    Undertext apart = bookOf(2, 3);
    apart.fact(APART, 0, 1, true);
    due.is(30 - 6, "apart", () -> apart.arrangements(0, true));
    apart.fact(SHEET, 1, 0, true);
    due.is(0, "apart and not", () -> apart.arrangements(0, true));
    due.is(0, "no places", () -> apart.places(0, true));
  }

  private static void likely() {
    Undertext x = bookOf(2, 2);
    x.fact(AT, 0, 0, false);
    due.is(12, "LIKELY ones are not CERTAIN", () -> x.arrangements(0, false));
    due.is(3, "but count where all do", () -> x.arrangements(0, true));
    due.is(0b1111, "places by the CERTAIN ones", () -> x.places(0, false));
    due.is(1, "places by all", () -> x.places(0, true));
    x.fact(AT, 0, 1, true);
    due.is(3, "a CERTAIN one against it", () -> x.arrangements(0, false));
    due.is(0, "none by all", () -> x.arrangements(0, true));
    x.hold(0, false);
    due.is(3, "all that hold", () -> x.arrangements(0, true));
  }

  private static void worms() {
    Undertext x = new Undertext();
    x.sheets(0, 2);
    x.leaf(0, 1, 1, NONE, 0b10000001);
    x.leaf(0, 1, 1, NONE, 0b00000001);
    x.leaf(0, 1, 1, NONE, 0b10000000);
    due.is(8, "the one with both holes is in the middle", () -> x.arrangements(0, true));
    due.is(0b0110, "its places", () -> x.places(0, true));
    due.is(0b1111, "the outer ones'", () -> x.places(1, true));
    x.leaf(0, 1, 1, NONE, 0);
    due.is(4, "one without holes is outermost", () -> x.arrangements(0, true));
    due.is(0b1001, "its places then", () -> x.places(3, true));
    Undertext y = new Undertext();
    y.sheets(0, 2);
    y.leaf(0, 1, 1, NONE, 2);
    y.leaf(0, 1, 1, NONE, 2);
    due.is(12, "an empty place between two is no leaf", () -> y.arrangements(0, true));
    y.leaf(0, 1, 1, NONE, 1);
    due.is(24 - 8, "but a leaf without it is", () -> y.arrangements(0, true));
  }

  private static void fronts() {
    Undertext x = new Undertext();
    x.sheets(0, 1);
    x.leaf(0, 1, 1, HAIR, 0);
    x.leaf(0, 1, 1, HAIR, 0);
    due.is(0, "hair behind hair", () -> x.arrangements(0, true));
    x.sheets(0, 2);
    due.is(12 - 6, "with a place between them", () -> x.arrangements(0, true));
    Undertext y = new Undertext();
    y.sheets(0, 1);
    y.leaf(0, 1, 1, FLESH, 0);
    y.leaf(0, 1, 1, FLESH, 0);
    due.is(0, "flesh behind flesh", () -> y.arrangements(0, true));
    Undertext z = new Undertext();
    z.sheets(0, 1);
    z.leaf(0, 1, 1, FLESH, 0);
    z.leaf(0, 1, 1, HAIR, 0);
    due.is(2, "flesh and hair", () -> z.arrangements(0, true));
    for (int front = NONE; front <= FLESH; front++) {
      Undertext w = new Undertext();
      w.sheets(0, 1);
      w.leaf(0, 1, 1, NONE, 0);
      w.leaf(0, 1, 1, front, 0);
      due.is(2, "a front that is not known beside " + front, () -> w.arrangements(0, true));
    }
  }

  private static void arrangements() {
    int[] counts = {1, 8, 56, 336, 1680, 6720, 20160};
    for (int i = 0; i < counts.length; i++) {
      Undertext x = bookOf(i, 4);
      due.is(counts[i], i + " leaves of which nothing is known", () -> x.arrangements(0, true));
    }
    Undertext full = bookOf(6, 3);
    due.is(720, "a full book", () -> full.arrangements(0, false));
    Undertext x = bookOf(2, 2);
    due.is(12, "asked", () -> x.arrangements(0, false));
    x.leaf(0, 1, 1, NONE, 0);
    due.is(24, "asked with one leaf more", () -> x.arrangements(0, false));
    x.sheets(0, 3);
    due.is(120, "asked with one sheet more", () -> x.arrangements(0, false));
    x.fact(NEXT, 0, 1, true);
    due.is(5 * 4, "asked with a fact more", () -> x.arrangements(0, false));
    x.hold(0, false);
    due.is(120, "asked with a fact less", () -> x.arrangements(0, false));
  }

  private static void places() {
    Undertext x = bookOf(1, 4);
    due.is(255, "all places", () -> x.places(0, false));
    x.fact(APART, x.leaf(0, 1, 1, NONE, 0), 0, true);
    x.fact(AT, 1, 0, true);
    due.is(254 - 128, "all but the one of the same sheet", () -> x.places(0, false));
    x.fact(AHEAD, 0, 1, true);
    due.is(0, "none ahead of the first", () -> x.places(0, false));
    due.is(0, "of either", () -> x.places(1, false));
  }

  private static void fewerSheets() {
    Undertext x = bookOf(2, 4);
    x.fact(AT, 0, 5, true);
    due.is(7, "a place that is", () -> x.arrangements(0, true));
    x.sheets(0, 2);
    due.is(0, "a place that is no more", () -> x.arrangements(0, true));
    due.is(0, "no places without an arrangement", () -> x.places(1, true));
    x.hold(0, false);
    due.is(12, "it does not count when it fell", () -> x.arrangements(0, true));
    x.hold(0, true);
    x.sheets(0, 3);
    due.is(5, "a place that is again", () -> x.arrangements(0, true));
  }

  private static void joined() {
    Undertext x = bookOf(4, 2);
    x.leaf(1, 1, 1, NONE, 0);
    due.is(1, "in some", () -> x.joined(0, 1));
    x.fact(SHEET, 1, 0, false);
    due.is(1, "LIKELY ones do not count", () -> x.joined(0, 1));
    x.fact(SHEET, 2, 3, true);
    due.is(2, "in all, as the others are", () -> x.joined(0, 1));
    due.is(2, "in all, the other way", () -> x.joined(1, 0));
    due.is(0, "in none", () -> x.joined(1, 2));
    x.fact(APART, 0, 1, true);
    due.is(0, "no arrangement", () -> x.joined(0, 1));
    due.is(0, "no arrangement, of one sheet by a fact", () -> x.joined(2, 3));
    due.is(Due.INDEX, "leaf 5 and 0", () -> x.joined(5, 0));
    due.is(Due.INDEX, "leaf 0 and 5", () -> x.joined(0, 5));
    due.is(Due.INDEX, "leaf 5 and itself", () -> x.joined(5, 5));
    due.is(Due.INDEX, "leaf -1", () -> x.joined(-1, 0));
    due.is(Due.ARGUMENT, "a leaf and itself", () -> x.joined(3, 3));
    due.is(Due.ARGUMENT, "leaves of two books", () -> x.joined(4, 0));
  }

  private static void books() {
    Undertext x = new Undertext();
    x.leaf(1, 1, 1, HAIR, 1);
    x.leaf(0, 1, 1, HAIR, 1);
    x.leaf(1, 1, 1, HAIR, 1);
    x.sheets(1, 2);
    due.is(8, "one leaf of book 0", () -> x.arrangements(0, true));
    due.is(6, "two of book 1, unlike in front", () -> x.arrangements(1, true));
    x.fact(AHEAD, 2, 0, true);
    due.is(8, "a fact of book 1 is none of book 0", () -> x.arrangements(0, true));
    due.is(3, "but of book 1", () -> x.arrangements(1, true));
    x.fact(AT, 1, 0, true);
    due.is(1, "a fact of book 0", () -> x.arrangements(0, true));
    due.is(3, "is none of book 1", () -> x.arrangements(1, true));
    x.hold(0, false);
    due.is(6, "a fact of book 1 that fell", () -> x.arrangements(1, true));
  }
}
