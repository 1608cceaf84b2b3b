/** The edges of promises 19 to 22, and of what the document says ahead of them on hands and dates. */
final class HandsDatesEdges {
  private static final int SHEET = Undertext.SHEET;
  private static final String INDEX = Edges.INDEX;
  private static final String ARGUMENT = Edges.ARGUMENT;
  private static final String STATE = Edges.STATE;
  private static final String ORDER = "if several exceptions apply, the one that its @throws lines name first is thrown";
  private static final Past NEW = Past.NEW;

  private final Edges edges;

  HandsDatesEdges(Edges edges) {
    this.edges = edges;
  }

  void ask() {
    handRanges();
    handsAtFirst();
    alike();
    hasty();
    handCounts();
    handOfRanges();
    chains();
    dateRanges();
    evidence();
    dateOrder();
    datesRanges();
    spans();
    joinedDates();
    datesNotJoined();
  }

  private void handRanges() {
    Past past = NEW.leaves(0, 2).leaves(1, 1).hand(1, 9, 9, 9, 1);
    edges.range(19, "`leaf`: a leaf", past, 0, 2, INDEX, (x, n) -> x.hand(n, 20, 20, 20, 3));
    edges.range(19, "`first`: 0 to 20", past, 0, 20, ARGUMENT, (x, n) -> x.hand(1, n, 9, 9, 1));
    edges.range(19, "`second`: 0 to 20", past, 0, 20, ARGUMENT, (x, n) -> x.hand(1, 9, n, 9, 1));
    edges.range(19, "`third`: 0 to 20", past, 0, 20, ARGUMENT, (x, n) -> x.hand(1, 9, 9, n, 1));
    edges.range(19, "`haste`: 0 to 3", past, 0, 3, ARGUMENT, (x, n) -> x.hand(1, 9, 9, 9, n));
    edges.of(19, "if there is no such leaf");
    edges.refuses(INDEX, "no leaf at all", NEW, x -> x.hand(0, 0, 0, 0, 0));
    edges.refuses(INDEX, "the tenth leaf", past, x -> x.hand(9, 0, 0, 0, 0));
    edges.of(19, "if first, second, third or haste is out of range");
    edges.refuses(ARGUMENT, "all above", past, x -> x.hand(1, 21, 21, 21, 4));
    edges.refuses(ARGUMENT, "all below", past, x -> x.hand(1, -1, -1, -1, -1));
    edges.of(19, ORDER);
    edges.refuses(INDEX, "no leaf, no first", past, x -> x.hand(3, 21, 0, 0, 0));
    edges.refuses(INDEX, "no leaf, no second", past, x -> x.hand(3, 0, -1, 0, 0));
    edges.refuses(INDEX, "no leaf, no third", past, x -> x.hand(-1, 0, 0, 21, 0));
    edges.refuses(INDEX, "no leaf, no haste", past, x -> x.hand(-1, 0, 0, 0, 4));
  }

  private void handsAtFirst() {
    edges.of(19, "Sets the hand of a leaf, all 0 at first.");
    edges.is(1, "as all 0", NEW.leaves(0, 2), x -> x.hand(0, 0, 0, 0, 0));
    edges.is(1, "6 beside all 0", NEW.leaves(0, 2), x -> x.hand(0, 6, 0, 0, 0));
    edges.is(2, "7 beside all 0, the haste too", NEW.leaves(0, 2), x -> x.hand(0, 7, 0, 0, 0));
    edges.is(1, "set again", NEW.leaves(0, 2).hand(0, 20, 20, 20, 3), x -> x.hand(0, 0, 0, 0, 0));
    edges.is(1, "a new leaf", NEW.leaves(0, 1).hand(0, 20, 0, 0, 0).leaves(0, 1), x -> x.handOf(1));
    edges.of(19, "a hand (three numbers, 0 to 20), a haste, 0 to 3");
    edges.is(1, "one leaf with the most of all", NEW.leaves(0, 1), x -> x.hand(0, 20, 20, 20, 3));
    edges.is(2, "all apart: 60", NEW.leaves(0, 2).hand(0, 0, 0, 0, 3), x -> x.hand(1, 20, 20, 20, 3));
  }

  /** Two leaves whose numbers are as far apart as told, and how many hands that makes. */
  private void apart(int due, int first, int second, int third, int haste, int otherHaste) {
    String what = first + " " + second + " " + third + " in haste " + haste + " and " + otherHaste;
    edges.is(due, what, NEW.leaves(0, 1).leaves(1, 1).hand(0, 0, 0, 0, haste), x -> x.hand(1, first, second, third, otherHaste));
    Past back = NEW.leaves(0, 2).hand(1, 20, 20, 20, haste);
    edges.is(due, what + ", from the most", back, x -> x.hand(0, 20 - first, 20 - second, 20 - third, otherHaste));
  }

  private void alike() {
    edges.of(19, "Two leaves are alike in hand, if the sum of the differences of their three numbers is at most 6");
    apart(1, 6, 0, 0, 0, 0);
    apart(2, 7, 0, 0, 0, 0);
    apart(1, 0, 6, 0, 0, 0);
    apart(2, 0, 7, 0, 0, 0);
    apart(1, 0, 0, 6, 0, 0);
    apart(2, 0, 0, 7, 0, 0);
    apart(1, 2, 2, 2, 0, 0);
    apart(2, 2, 2, 3, 0, 0);
    apart(2, 20, 20, 20, 0, 0);
    apart(1, 0, 0, 0, 0, 0);
    edges.is(2, "one above and one below are both differences", NEW.leaves(0, 2).hand(0, 4, 0, 0, 0), x -> x.hand(1, 0, 4, 0, 0));
    edges.is(1, "as many, no more than 6", NEW.leaves(0, 2).hand(0, 3, 0, 0, 0), x -> x.hand(1, 0, 3, 0, 0));
  }

  private void hasty() {
    edges.of(19, "and 2 times the haste of the one, and 2 times that of the other one, together");
    for (int haste = 0; haste <= 3; haste++) {
      for (int other = 0; other <= 3; other++) {
        int most = 6 + 2 * haste + 2 * other;
        apart(1, most, 0, 0, haste, other);
        apart(2, most + 1, 0, 0, haste, other);
        apart(1, 0, most - 3, 3, haste, other);
        apart(2, 0, most - 3, 4, haste, other);
      }
    }
  }

  private static Past tenHands() {
    return NEW.leaves(0, 5).leaves(1, 5).hand(1, 20, 0, 0, 0).hand(2, 0, 20, 0, 0).hand(3, 0, 0, 20, 0).hand(4, 20, 20, 0, 0)
        .hand(5, 20, 0, 20, 0).hand(6, 0, 20, 20, 0).hand(7, 20, 20, 20, 0).hand(8, 10, 10, 10, 0).hand(9, 10, 0, 0, 0);
  }

  private void handCounts() {
    edges.of(19, "Returns how many hands there are.");
    edges.is(1, "of one leaf", NEW.leaves(1, 1), x -> x.hand(0, 20, 0, 20, 1));
    edges.is(1, "of ten leaves", NEW.leaves(0, 5).leaves(1, 5), x -> x.hand(9, 0, 0, 6, 0));
    edges.is(10, "as many as ten leaves", tenHands(), x -> x.hand(0, 0, 0, 0, 0));
    edges.is(9, "one as another", tenHands(), x -> x.hand(9, 20, 20, 20, 0));
    edges.is(2, "two that are as one, and one", NEW.leaves(0, 2).leaves(1, 1).hand(1, 20, 0, 0, 0), x -> x.hand(0, 20, 0, 0, 0));
  }

  private void handOfRanges() {
    Past past = NEW.leaves(0, 2).leaves(1, 1).hand(1, 9, 9, 9, 1);
    edges.range(20, "`leaf`: a leaf", past, 0, 2, INDEX, (x, n) -> x.handOf(n));
    edges.range(20, "if there is no such leaf", tenHands(), 0, 9, INDEX, (x, n) -> x.handOf(n));
    edges.refuses(INDEX, "no leaf at all", NEW, x -> x.handOf(0));
    edges.of(20, "Returns the lowest leaf of the same hand.");
    edges.of(20, "Returns the leaf.");
    for (int i = 0; i < 10; i++) {
      int leaf = i;
      edges.is(leaf, "itself, " + leaf, tenHands(), x -> x.handOf(leaf));
      edges.is(0, "the first, of " + leaf, NEW.leaves(0, 5).leaves(1, 5), x -> x.handOf(leaf));
    }
    edges.is(8, "the last but one", tenHands().hand(9, 10, 10, 10, 0), x -> x.handOf(9));
    edges.is(9, "set away", NEW.leaves(0, 5).leaves(1, 5).hand(9, 0, 0, 7, 0), x -> x.handOf(9));
    edges.is(1, "the first set away", NEW.leaves(0, 5).leaves(1, 5).hand(0, 0, 0, 7, 0), x -> x.handOf(9));
  }

  private void chains() {
    edges.of(20, "of one hand, if they are alike, or one goes over from one to the other by leaves of which each two are alike, of both books");
    Past three = NEW.leaves(0, 2).leaves(1, 1).hand(0, 12, 0, 0, 0).hand(2, 6, 0, 0, 0);
    edges.is(0, "over a leaf of the other book", three, x -> x.handOf(1));
    edges.is(3, "the one between set away", three, x -> x.hand(2, 6, 7, 0, 0));
    edges.is(1, "the one between in haste", three, x -> x.hand(2, 6, 1, 0, 1));
    Past ten = NEW.leaves(0, 5).leaves(1, 5);
    for (int i = 0; i < 10; i++) {
      int along = 6 * (9 - i);
      ten = ten.hand(i, Math.min(along, 20), Math.max(0, Math.min(along - 20, 20)), Math.max(0, along - 40), 0);
    }
    edges.is(0, "over all ten, in steps of 6", ten, x -> x.handOf(9));
    edges.is(0, "over all but one", ten, x -> x.handOf(8));
    for (int i = 1; i < 9; i++) {
      int leaf = i;
      Past broken = ten.hand(leaf, 0, 20, 0, 0);
      edges.is(leaf + 1, "broken at " + leaf, broken, x -> x.handOf(9));
      edges.is(0, "ahead of the break at " + leaf, broken, x -> x.handOf(leaf - 1));
      edges.is(leaf, "the one that broke, " + leaf, broken, x -> x.handOf(leaf));
    }
  }

  private void dateRanges() {
    Past past = NEW.leaves(0, 2).leaves(1, 1).date(1, 7);
    edges.range(21, "`leaf`: a leaf", past, 0, 2, INDEX, (x, n) -> x.date(n, 9));
    edges.range(21, "`spans`: 0 to 4095: the sum of 2 to the power of each", past, 0, 4095, ARGUMENT, (x, n) -> x.date(1, n));
    edges.of(21, "if there is no such leaf");
    edges.refuses(INDEX, "no leaf at all", NEW, x -> x.date(0, 1));
    edges.refuses(INDEX, "the tenth leaf", past, x -> x.date(9, 1));
    edges.of(21, "if spans is out of range");
    edges.refuses(ARGUMENT, "a span too many alone", past, x -> x.date(0, 4096));
    edges.refuses(ARGUMENT, "a span too many beside others", past, x -> x.date(1, 4096 + 7));
    edges.of(21, "Dates are the spans 0 to 11.");
    for (int i = 0; i < 12; i++) {
      int span = 1 << i;
      edges.is(span, "span " + i + " alone", NEW.leaves(0, 1), x -> x.date(0, span));
      edges.is(4095 - span, "all but span " + i, NEW.leaves(0, 1), x -> x.date(0, 4095 - span));
    }
  }

  private void evidence() {
    edges.of(21, "Tells evidence for the dates of a leaf.");
    edges.of(21, "For a leaf evidence is told, up to 4 times, each time a set of spans");
    edges.of(21, "if it was told 4 times");
    Past past = NEW.leaves(0, 2).leaves(1, 1);
    int[] spans = {0b111111, 0b011111, 0b101111, 0b110111};
    int[] dates = {0b111111, 0b011111, 0b001111, 0b000111};
    for (int i = 0; i < 4; i++) {
      int time = i;
      edges.is(dates[time], "time " + (time + 1), past, x -> x.date(1, spans[time]));
      past = past.date(1, spans[time]);
    }
    Past full = past;
    edges.refuses(STATE, "a fifth time", full, x -> x.date(1, 1));
    edges.refuses(STATE, "a fifth time, what is told already", full, x -> x.date(1, 0b111111));
    edges.refuses(STATE, "a fifth time, all spans", full, x -> x.date(1, 4095));
    edges.refuses(STATE, "a fifth time, no span", full, x -> x.date(1, 0));
    edges.is(7, "the first time of another leaf", full, x -> x.date(0, 7));
    edges.is(7, "the first time of a leaf of the other book", full, x -> x.date(2, 7));
    Past same = NEW.leaves(0, 1).date(0, 4095, 4095, 4095);
    edges.is(4095, "all spans, a fourth time", same, x -> x.date(0, 4095));
    edges.refuses(STATE, "all spans, a fifth time", same.date(0, 4095), x -> x.date(0, 4095));
    edges.refuses(STATE, "no span, a fifth time", NEW.leaves(0, 1).date(0, 0, 0, 0, 0), x -> x.date(0, 0));
    Past joined = NEW.leaves(0, 2).fact(SHEET, 0, 1).date(0, 7, 7, 7, 7);
    edges.is(3, "the first time of a leaf of one sheet with it", joined, x -> x.date(1, 3));
    edges.of(21, "Returns its dates then.");
    edges.is(0b100, "what is in both", NEW.leaves(0, 1).date(0, 0b110), x -> x.date(0, 0b101));
    edges.is(0, "what is in neither", NEW.leaves(0, 1).date(0, 0b010), x -> x.date(0, 0b101));
    edges.is(2, "of one sheet with another", NEW.leaves(0, 2).fact(SHEET, 0, 1).date(0, 6), x -> x.date(1, 3));
  }

  private void dateOrder() {
    edges.of(21, ORDER);
    Past full = NEW.leaves(0, 1).date(0, 7, 7, 7, 7);
    edges.refuses(INDEX, "no leaf, no spans", full, x -> x.date(1, 4096));
    edges.refuses(INDEX, "no leaf, no spans, below", full, x -> x.date(-1, -1));
    edges.refuses(ARGUMENT, "no spans, a fifth time", full, x -> x.date(0, 4096));
    edges.refuses(ARGUMENT, "no spans, a fifth time, below", full, x -> x.date(0, -1));
  }

  private void datesRanges() {
    Past past = NEW.leaves(0, 2).leaves(1, 1).date(1, 7);
    edges.range(22, "`leaf`: a leaf", past, 0, 2, INDEX, (x, n) -> x.dates(n));
    edges.range(22, "if there is no such leaf", NEW.leaves(0, 5).leaves(1, 5), 0, 9, INDEX, (x, n) -> x.dates(n));
    edges.refuses(INDEX, "no leaf at all", NEW, x -> x.dates(0));
  }

  private void spans() {
    edges.of(22, "Returns the dates of a leaf.");
    edges.of(22, "Returns the sum of 2 to the power of each span, 4095 without evidence, 0 if it is FORGED.");
    Past past = NEW.leaves(0, 2);
    edges.is(4095, "without evidence", past, x -> x.dates(0));
    edges.is(4095, "without evidence beside one with it", past.date(0, 1), x -> x.dates(1));
    edges.is(4095, "evidence of all spans", past.date(0, 4095), x -> x.dates(0));
    edges.is(1, "the first span", past.date(0, 1), x -> x.dates(0));
    edges.is(2048, "the last span", past.date(0, 2048), x -> x.dates(0));
    edges.of(22, "A leaf without dates is FORGED, or joined wrongly.");
    edges.is(0, "evidence of no span", past.date(0, 0), x -> x.dates(0));
    edges.is(0, "evidence of two that have none in common", past.date(0, 2047, 2048), x -> x.dates(0));
    edges.is(0, "all evidence but the last in common", past.date(0, 3, 3, 3, 4), x -> x.dates(0));
    edges.is(0, "FORGED, and told all spans", past.date(0, 0, 4095), x -> x.dates(0));
    Past wrong = past.date(0, 1).date(1, 2).fact(SHEET, 0, 1);
    edges.is(0, "joined wrongly, the one", wrong, x -> x.dates(0));
    edges.is(0, "joined wrongly, the other", wrong, x -> x.dates(1));
    edges.is(1, "joined no more", wrong.hold(0, false), x -> x.dates(0));
    edges.is(0, "joined with a FORGED one", past.date(0, 0).fact(SHEET, 1, 0), x -> x.dates(1));
  }

  private void joinedDates() {
    edges.of(22, "its dates are those in all of its own, and in those of each leaf that is of one sheet with it by a CERTAIN fact that holds, and so on over these");
    Past past = NEW.leaves(0, 6).date(0, 0b011).date(5, 0b110);
    Past row = past.fact(SHEET, 0, 3).fact(SHEET, 4, 3).fact(SHEET, 1, 4).fact(SHEET, 2, 1).fact(SHEET, 5, 2);
    for (int i = 0; i < 6; i++) {
      int leaf = i;
      edges.is(2, "all in a row, leaf " + leaf, row, x -> x.dates(leaf));
    }
    int[] order = {0, 3, 4, 1, 2, 5};
    for (int i = 0; i < 5; i++) {
      int fact = i;
      for (int k = 0; k < 6; k++) {
        int leaf = order[k];
        int due = k <= fact ? 0b011 : 0b110;
        edges.is(due, "fact " + fact + " has fallen, leaf " + leaf, row.hold(fact, false), x -> x.dates(leaf));
        edges.is(2, "fact " + fact + " holds again, leaf " + leaf, row.hold(fact, false).hold(fact, true), x -> x.dates(leaf));
      }
    }
    Past round = past.fact(SHEET, 0, 5).fact(SHEET, 5, 0);
    edges.is(2, "told twice, one fallen", round.hold(0, false), x -> x.dates(0));
    edges.is(3, "told twice, both fallen", round.hold(0, false).hold(1, false), x -> x.dates(0));
    edges.is(0, "though there is no arrangement of a row", row, x -> x.arrangements(0, false));
    Past last = past.facts(11, Undertext.AHEAD, 1, 2).fact(SHEET, 0, 5);
    edges.is(2, "by the twelfth fact", last, x -> x.dates(0));
    Past other = NEW.leaves(0, 4).leaves(1, 6).date(4, 3).date(9, 6).fact(SHEET, 9, 4);
    edges.is(2, "the last leaf, of book 1", other, x -> x.dates(9));
    edges.is(4095, "one of book 0 beside it", other, x -> x.dates(3));
  }

  private void datesNotJoined() {
    edges.of(22, "by a CERTAIN fact that holds");
    Past past = NEW.leaves(0, 3).date(0, 3).date(1, 6);
    edges.is(3, "by a LIKELY one", past.likely(SHEET, 0, 1), x -> x.dates(0));
    edges.is(3, "by one that fell", past.fact(SHEET, 0, 1).hold(0, false), x -> x.dates(0));
    edges.is(2, "by a LIKELY one and a CERTAIN one", past.likely(SHEET, 0, 1).fact(SHEET, 1, 0), x -> x.dates(0));
    edges.is(3, "a LIKELY one is left when the CERTAIN one falls", past.likely(SHEET, 0, 1).fact(SHEET, 1, 0).hold(1, false), x -> x.dates(0));
    edges.is(3, "by a row that is LIKELY at one place", past.likely(SHEET, 0, 2).fact(SHEET, 2, 1), x -> x.dates(0));
    for (int kind : new int[] {Undertext.NEXT, Undertext.AHEAD, Undertext.APART}) {
      edges.is(3, "by a fact of kind " + kind, past.fact(kind, 0, 1), x -> x.dates(0));
    }
    edges.is(3, "by a place with the other's number", past.fact(Undertext.AT, 0, 1), x -> x.dates(0));
  }
}
