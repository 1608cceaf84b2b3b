/** Promises 19 to 22: hands and dates. */
public final class HandsDatesTest {
  private static final int NONE = Undertext.NONE;
  private static final int SHEET = Undertext.SHEET;
  private static final Due due = new Due("HandsDatesTest");

  public static void main(String[] args) {
    hands();
    haste();
    chains();
    dates();
    datesOfSheets();
    due.end();
  }

  private static Undertext withLeaves(int count) {
    Undertext x = new Undertext();
    for (int i = 0; i < count; i++) x.leaf(i % 2, 1, 1, NONE, 0);
    return x;
  }

  private static void hands() {
    Undertext x = withLeaves(3);
    due.is(0, "all are of one hand at first", () -> x.handOf(2));
    due.is(1, "six apart is alike", () -> x.hand(0, 1, 2, 3, 0));
    due.is(2, "seven apart is not", () -> x.hand(0, 1, 2, 4, 0));
    due.is(0, "the first one's own", () -> x.handOf(0));
    due.is(1, "the lowest of the others", () -> x.handOf(2));
    due.is(1, "one itself the lowest", () -> x.handOf(1));
    due.is(3, "three hands", () -> x.hand(1, 20, 20, 20, 0));
    due.is(2, "the last one's own", () -> x.handOf(2));
    due.is(2, "two of them", () -> x.hand(2, 18, 18, 18, 0));
    due.is(1, "the lowest of those", () -> x.handOf(2));
    due.is(2, "above and below do not even out", () -> x.hand(2, 20, 16, 20, 0));
    x.leaf(0, 1, 1, NONE, 0);
    due.is(3, "a new leaf's hand is all 0, as no other one's is any more", () -> x.handOf(3));
    due.is(2, "and goes over to others by its own numbers", () -> x.hand(3, 20, 20, 20, 0));
    due.is(1, "from then on", () -> x.handOf(3));
  }

  private static void haste() {
    Undertext x = withLeaves(2);
    due.is(2, "seven apart", () -> x.hand(0, 7, 0, 0, 0));
    due.is(1, "in haste", () -> x.hand(0, 8, 0, 0, 1));
    due.is(2, "nine in haste", () -> x.hand(0, 9, 0, 0, 1));
    due.is(1, "both in haste", () -> x.hand(1, 0, 0, 0, 1));
    due.is(2, "the greatest haste of one", () -> x.hand(0, 8, 7, 0, 3));
    due.is(1, "the greatest haste of both", () -> x.hand(1, 0, 0, 3, 3));
    due.is(2, "nineteen", () -> x.hand(1, 0, 0, 4, 3));
  }

  private static void chains() {
    Undertext x = withLeaves(10);
    for (int i = 0; i < 10; i++) x.hand(i, i < 5 ? 5 * i : 20, i < 5 ? 0 : 4 * (i - 4), 0, 0);
    due.is(0, "one goes over to the other by those between", () -> x.handOf(9));
    due.is(2, "the chain is broken", () -> x.hand(5, 0, 0, 0, 0));
    due.is(0, "ahead of it", () -> x.handOf(4));
    due.is(6, "behind it", () -> x.handOf(9));
    due.is(0, "the one that went", () -> x.handOf(5));
    for (int i = 0; i < 10; i++) x.hand(i, 20, 20, 20, 0);
    int[] order = {3, 9, 1, 7, 5, 0, 8, 2, 6, 4};
    for (int i = 0; i < 10; i++) x.hand(order[i], i < 4 ? 6 * i : 20, i < 4 ? 0 : i < 7 ? 6 * (i - 4) : 20, i < 8 ? 0 : 20, 0);
    for (int i = 0; i < 10; i++) {
      int n = order[i];
      int lowest = i < 7 ? 0 : i == 7 ? 2 : 4;
      due.is(lowest, "the chain in another order, leaf " + n, () -> x.handOf(n));
    }
  }

  private static void dates() {
    Undertext x = withLeaves(2);
    due.is(4095, "no evidence", () -> x.dates(0));
    due.is(0b1110, "one span of evidence", () -> x.date(0, 0b1110));
    due.is(0b0110, "what is in both", () -> x.date(0, 0b0111));
    due.is(0b0110, "asked", () -> x.dates(0));
    due.is(4095, "another leaf", () -> x.dates(1));
    due.is(0, "FORGED", () -> x.date(0, 0b1001));
    due.is(0, "FORGED for good", () -> x.date(0, 4095));
    due.is(4095, "all spans", () -> x.date(1, 4095));
    due.is(0, "no span", () -> x.date(1, 0));
  }

  private static void datesOfSheets() {
    Undertext x = new Undertext();
    for (int i = 0; i < 4; i++) x.leaf(0, 1, 1, NONE, 0);
    x.date(0, 0b0111);
    x.date(1, 0b1110);
    x.date(2, 0b1011);
    x.fact(SHEET, 3, 2, true);
    x.fact(SHEET, 1, 0, false);
    due.is(0b1011, "of one sheet with it", () -> x.dates(3));
    due.is(0b0111, "a LIKELY one does not count", () -> x.dates(0));
    x.fact(SHEET, 0, 1, true);
    due.is(0b0110, "a CERTAIN one does", () -> x.dates(0));
    due.is(0b0110, "both ways", () -> x.dates(1));
    x.fact(SHEET, 1, 3, true);
    due.is(0b0010, "and so on over these", () -> x.dates(0));
    due.is(0b0010, "to the end", () -> x.dates(2));
    x.hold(3, false);
    due.is(0b0110, "one that fell", () -> x.dates(0));
    due.is(0b1011, "one that fell, behind it", () -> x.dates(3));
    x.hold(3, true);
    due.is(0, "evidence of the last for all: FORGED, or joined wrongly", () -> x.date(3, 0b1101));
    due.is(0, "so it is for the first", () -> x.dates(0));
    Undertext y = new Undertext();
    for (int i = 0; i < 4; i++) y.leaf(0, 1, 1, NONE, 0);
    y.date(0, 1);
    y.fact(Undertext.NEXT, 0, 1, true);
    y.fact(Undertext.APART, 0, 2, true);
    y.fact(Undertext.AT, 3, 0, true);
    y.fact(Undertext.AHEAD, 0, 3, true);
    for (int i = 1; i < 4; i++) {
      int n = i;
      due.is(4095, "facts of other kinds join no dates, leaf " + n, () -> y.dates(n));
    }
  }
}
