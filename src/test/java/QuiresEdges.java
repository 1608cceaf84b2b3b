/** The edges of promises 14 to 18, and of what the document says ahead of them on quires. */
final class QuiresEdges {
  private static final int NONE = Undertext.NONE;
  private static final int HAIR = Undertext.HAIR;
  private static final int FLESH = Undertext.FLESH;
  private static final int SHEET = Undertext.SHEET;
  private static final int NEXT = Undertext.NEXT;
  private static final int AHEAD = Undertext.AHEAD;
  private static final int AT = Undertext.AT;
  private static final int APART = Undertext.APART;
  private static final String INDEX = Edges.INDEX;
  private static final String ARGUMENT = Edges.ARGUMENT;
  private static final String STATE = Edges.STATE;
  private static final String ORDER = "if several exceptions apply, the one that its @throws lines name first is thrown";
  private static final Past NEW = Past.NEW;

  private final Edges edges;

  QuiresEdges(Edges edges) {
    this.edges = edges;
  }

  void ask() {
    factRanges();
    factOthers();
    factsFull();
    factOrder();
    holdRanges();
    fallen();
    arrangementRanges();
    arrangementCounts();
    whatCounts();
    sheetPlaces();
    next();
    ahead();
    at();
    atFewerPlaces();
    worms();
    wormPlaces();
    fronts();
    frontEdges();
    placeRanges();
    placeSets();
    joinedRanges();
    joinedCounts();
  }

  private void factRanges() {
    Past past = NEW.leaves(0, 3).leaves(1, 1).fact(AHEAD, 0, 1);
    edges.range(14, "`kind`: SHEET to APART", past, SHEET, APART, ARGUMENT, (x, n) -> x.fact(n, 0, 1, true));
    edges.range(14, "`leaf`: a leaf", past, 0, 3, INDEX, (x, n) -> x.fact(AT, n, 7, true));
    edges.range(14, "`other`: another leaf of the same book", NEW.leaves(0, 3), 0, 2, INDEX, (x, n) -> x.fact(NEXT, 1, n, true));
    edges.range(14, "for AT a place of it", past, 0, 7, INDEX, (x, n) -> x.fact(AT, 3, n, true));
    for (int i = 1; i <= 4; i++) {
      int sheets = i;
      Past fewer = NEW.leaves(0, 2).sheets(0, sheets).leaves(1, 1);
      edges.range(14, "for AT a place of it", fewer, 0, 2 * sheets - 1, INDEX, (x, n) -> x.fact(AT, 1, n, false));
      edges.range(14, "for AT a place of it", fewer, 0, 7, INDEX, (x, n) -> x.fact(AT, 2, n, false));
    }
    edges.of(14, "if there is no such leaf");
    edges.refuses(INDEX, "no leaf at all", NEW, x -> x.fact(AT, 0, 0, true));
    edges.refuses(INDEX, "the tenth leaf", past, x -> x.fact(SHEET, 9, 0, true));
    edges.of(14, "`isCertain`: whether it is CERTAIN");
    edges.is(0, "CERTAIN", NEW.leaves(0, 1), x -> x.fact(AT, 0, 0, true));
    edges.is(0, "LIKELY", NEW.leaves(0, 1), x -> x.fact(AT, 0, 0, false));
    edges.of(14, "It is CERTAIN or LIKELY.");
    edges.is(8, "a LIKELY one by the CERTAIN", NEW.leaves(0, 1).likely(AT, 0, 0), x -> x.arrangements(0, false));
    edges.is(1, "a CERTAIN one by the CERTAIN", NEW.leaves(0, 1).fact(AT, 0, 0), x -> x.arrangements(0, false));
  }

  private void factOthers() {
    Past past = NEW.leaves(0, 3).leaves(1, 2);
    edges.of(14, "or, for a kind that is in range, no such other leaf, or place");
    for (int i = SHEET; i <= APART; i++) {
      int kind = i;
      int beyond = kind == AT ? 8 : 5;
      edges.refuses(INDEX, "kind " + kind + " with " + beyond, past, x -> x.fact(kind, 0, beyond, true));
      edges.refuses(INDEX, "kind " + kind + " with -1", past, x -> x.fact(kind, 0, -1, true));
      edges.refuses(INDEX, "kind " + kind + " of no leaf and no other", past, x -> x.fact(kind, 5, -1, true));
    }
    edges.refuses(ARGUMENT, "a kind below, no other leaf or place", past, x -> x.fact(-1, 0, 9, true));
    edges.refuses(ARGUMENT, "a kind above, no other leaf or place", past, x -> x.fact(5, 0, -1, true));
    edges.refuses(INDEX, "a kind above, no leaf", past, x -> x.fact(5, 5, 0, true));
    edges.of(14, "if kind is out of range, both leaves are one, or of two books");
    for (int i = SHEET; i <= APART; i++) {
      int kind = i;
      if (kind == AT) continue;
      edges.refuses(ARGUMENT, "both are one, kind " + kind, past, x -> x.fact(kind, 2, 2, true));
      edges.refuses(ARGUMENT, "of books 0 and 1, kind " + kind, past, x -> x.fact(kind, 0, 3, true));
      edges.refuses(ARGUMENT, "of books 1 and 0, kind " + kind, past, x -> x.fact(kind, 4, 2, true));
      edges.is(0, "the first and the last of book 0, kind " + kind, past, x -> x.fact(kind, 0, 2, true));
      edges.is(0, "two of book 1, kind " + kind, past, x -> x.fact(kind, 4, 3, true));
    }
    edges.is(0, "a place with the leaf's own number", past, x -> x.fact(AT, 2, 2, true));
    edges.is(0, "a place with the number of a leaf of the other book", past, x -> x.fact(AT, 0, 3, true));
    edges.is(0, "a place that is the number of no leaf", past, x -> x.fact(AT, 4, 7, true));
  }

  private void factsFull() {
    edges.of(14, "A fact is told of a book, numbered from 0, up to 12");
    edges.of(14, "Tells a fact.");
    edges.of(14, "Returns its number.");
    Past past = NEW.leaves(0, 2).leaves(1, 2);
    for (int i = 0; i < 12; i++) {
      edges.is(i, "after " + i, past.facts(i, AHEAD, 0, 1), x -> x.fact(AHEAD, 0, 1, true));
      edges.is(i, "after " + i + " of the other book", past.facts(i, AHEAD, 0, 1), x -> x.fact(AHEAD, 2, 3, true));
    }
    edges.of(14, "if there are 12");
    Past full = past.facts(12, AHEAD, 0, 1);
    for (int i = SHEET; i <= APART; i++) {
      int kind = i;
      edges.refuses(STATE, "a thirteenth, kind " + kind, full, x -> x.fact(kind, 0, 1, true));
      edges.refuses(STATE, "a thirteenth of the other book, kind " + kind, full, x -> x.fact(kind, 2, 3, false));
    }
    Past fallen = full;
    for (int fact = 0; fact < 12; fact++) fallen = fallen.hold(fact, false);
    edges.refuses(STATE, "a thirteenth, when all have fallen", fallen, x -> x.fact(AHEAD, 0, 1, true));
    Past halves = past.facts(6, AHEAD, 0, 1).facts(6, AHEAD, 2, 3);
    edges.refuses(STATE, "a thirteenth, of 6 and 6", halves, x -> x.fact(AHEAD, 0, 1, true));
    Past last = past.facts(11, AHEAD, 0, 1).fact(AT, 0, 0);
    edges.is(7, "the twelfth counts", last, x -> x.arrangements(0, false));
    edges.is(true, "the twelfth holds", last, x -> x.hold(11, false));
    edges.is(28, "the twelfth falls", last.hold(11, false), x -> x.arrangements(0, false));
  }

  private void factOrder() {
    edges.of(14, ORDER);
    Past full = NEW.leaves(0, 2).leaves(1, 1).facts(12, AHEAD, 0, 1);
    edges.refuses(INDEX, "no leaf, no kind, no room", full, x -> x.fact(5, 3, 0, true));
    edges.refuses(INDEX, "no leaf, and it is the other, no room", full, x -> x.fact(SHEET, 3, 3, true));
    edges.refuses(INDEX, "no other leaf, no room", full, x -> x.fact(SHEET, 0, 3, true));
    edges.refuses(INDEX, "no place, no room", full, x -> x.fact(AT, 0, 8, true));
    edges.refuses(ARGUMENT, "no kind, no room", full, x -> x.fact(-1, 0, 1, true));
    edges.refuses(ARGUMENT, "no kind, no other leaf, no room", full, x -> x.fact(5, 0, 3, true));
    edges.refuses(ARGUMENT, "both are one, no room", full, x -> x.fact(NEXT, 1, 1, true));
    edges.refuses(ARGUMENT, "of two books, no room", full, x -> x.fact(APART, 1, 2, true));
  }

  private void holdRanges() {
    Past past = NEW.leaves(0, 2).facts(3, AHEAD, 0, 1);
    edges.range(15, "`fact`: a fact", past, 0, 2, INDEX, (x, n) -> x.hold(n, false));
    edges.range(15, "if there is no such fact", past.facts(9, AHEAD, 0, 1), 0, 11, INDEX, (x, n) -> x.hold(n, true));
    edges.refuses(INDEX, "no fact at all", NEW, x -> x.hold(0, false));
    edges.refuses(INDEX, "fact 11 of three", past, x -> x.hold(11, false));
  }

  private void fallen() {
    edges.of(15, "Lets a fact fall, or hold again.");
    edges.of(15, "Returns whether it held.");
    edges.of(15, "`holds`: whether it is to hold");
    edges.of(15, "A fact can fall, and be told to hold again.");
    Past past = NEW.leaves(0, 1).fact(AT, 0, 0);
    edges.is(true, "told, to fall", past, x -> x.hold(0, false));
    edges.is(true, "told, to hold", past, x -> x.hold(0, true));
    edges.is(false, "fallen, to fall", past.hold(0, false), x -> x.hold(0, false));
    edges.is(false, "fallen, to hold", past.hold(0, false), x -> x.hold(0, true));
    edges.is(true, "held again", past.hold(0, false).hold(0, true), x -> x.hold(0, true));
    edges.is(8, "fallen", past.hold(0, false), x -> x.arrangements(0, false));
    edges.is(8, "fallen, by all", past.hold(0, false), x -> x.arrangements(0, true));
    edges.is(8, "fallen twice", past.hold(0, false).hold(0, false), x -> x.arrangements(0, false));
    edges.is(1, "held twice", past.hold(0, true).hold(0, true), x -> x.arrangements(0, false));
    edges.is(1, "held again", past.hold(0, false).hold(0, true), x -> x.arrangements(0, false));
    edges.is(8, "a LIKELY one that holds again is still LIKELY", NEW.leaves(0, 1).likely(AT, 0, 0).hold(0, false).hold(0, true), x -> x.arrangements(0, false));
    edges.is(1, "the same told twice, one fallen", past.fact(AT, 0, 0).hold(0, false), x -> x.arrangements(0, false));
    edges.is(8, "the same told twice, both fallen", past.fact(AT, 0, 0).hold(0, false).hold(1, false), x -> x.arrangements(0, false));
  }

  private void arrangementRanges() {
    edges.range(16, "`book`: 0 or 1", NEW.leaves(1, 1), 0, 1, INDEX, (x, n) -> x.arrangements(n, true));
    edges.range(16, "if there is no such book", NEW, 0, 1, INDEX, (x, n) -> x.arrangements(n, false));
    edges.of(16, "Returns how many arrangements of a book fit.");
    edges.of(16, "Returns how many; 1 without leaves.");
    for (int i = 1; i <= 4; i++) {
      Past past = NEW.sheets(0, i).sheets(1, i);
      for (int k = 0; k < 2; k++) {
        int book = k;
        edges.is(1, "no leaves, book " + book, past, x -> x.arrangements(book, true));
        edges.is(1, "no leaves by the CERTAIN, book " + book, past, x -> x.arrangements(book, false));
        edges.is(1, "no leaves beside a book of them, " + book, past.leaves(1 - book, 2), x -> x.arrangements(book, false));
      }
    }
    Past none = NEW.leaves(0, 2).facts(1, AHEAD, 0, 1).fact(AHEAD, 1, 0);
    edges.is(1, "no leaves beside a book that nothing fits", none, x -> x.arrangements(1, true));
    edges.is(0, "a book that nothing fits", none, x -> x.arrangements(0, true));
  }

  private void arrangementCounts() {
    edges.of(16, "An arrangement gives each leaf of the book a place, no two the same.");
    edges.of(16, "of 2 leaves each, one in the other, so twice as many places, from 0 on");
    for (int sheets = 1; sheets <= 4; sheets++) {
      int due = 1;
      for (int leaves = 0; leaves <= 6 && leaves <= 2 * sheets; leaves++) {
        Past past = NEW.sheets(1, sheets).leaves(1, leaves);
        edges.is(due, leaves + " leaves on " + sheets, past, x -> x.arrangements(1, true));
        edges.is(due, leaves + " leaves by the CERTAIN on " + sheets, past, x -> x.arrangements(1, false));
        due *= 2 * sheets - leaves;
      }
    }
  }

  private void whatCounts() {
    edges.of(16, "What counts are facts that hold: all, or the CERTAIN ones alone, as is asked.");
    edges.of(16, "`all`: whether all facts count, otherwise the CERTAIN ones");
    edges.of(17, "`all`: whether all facts count, otherwise the CERTAIN ones");
    Past past = NEW.leaves(0, 2).fact(AHEAD, 0, 1).likely(AT, 0, 0);
    edges.is(28, "the CERTAIN", past, x -> x.arrangements(0, false));
    edges.is(7, "all", past, x -> x.arrangements(0, true));
    edges.is(127, "the CERTAIN, places", past, x -> x.places(0, false));
    edges.is(1, "all, places", past, x -> x.places(0, true));
    edges.is(28, "the LIKELY one has fallen", past.hold(1, false), x -> x.arrangements(0, true));
    edges.is(56, "the CERTAIN one has fallen", past.hold(0, false), x -> x.arrangements(0, false));
    edges.is(7, "the CERTAIN one has fallen, all", past.hold(0, false), x -> x.arrangements(0, true));
    edges.of(16, "It fits, if");
    edges.is(8, "a leaf alone, of which all is known", NEW.leafOf(0, HAIR, 255), x -> x.arrangements(0, true));
    Past other = NEW.leaves(0, 2).leaves(1, 2).fact(AHEAD, 2, 3);
    edges.is(56, "a fact of book 1 is none of book 0", other, x -> x.arrangements(0, true));
    edges.is(28, "a fact of book 1", other, x -> x.arrangements(1, true));
    edges.is(56, "front sides and worms of book 1 are none of book 0",
        NEW.leafOf(0, HAIR, 1).leafOf(1, HAIR, 1).leafOf(1, HAIR, 0).leaves(0, 1), x -> x.arrangements(0, true));
  }

  /** Two leaves at two places, and what a fact of them leaves of that. */
  private void placed(int due, int kind, int first, int second, int sheets) {
    Past past = NEW.sheets(0, sheets).leaves(0, 2).fact(AT, 0, first).fact(AT, 1, second).fact(kind, 0, 1);
    edges.is(due, "leaves at " + first + " and " + second + " of " + sheets + " sheets", past, x -> x.arrangements(0, false));
  }

  private void sheetPlaces() {
    for (int sheets = 1; sheets <= 4; sheets++) {
      for (int first = 0; first < 2 * sheets; first++) {
        for (int second = 0; second < 2 * sheets; second++) {
          if (first == second) continue;
          boolean together = first + second == 2 * sheets - 1;
          edges.of(14, "the places p and that many less 1 less p are of one sheet");
          placed(together ? 1 : 0, SHEET, first, second, sheets);
          edges.of(14, "APART: two leaves are not of one sheet");
          placed(together ? 0 : 1, APART, first, second, sheets);
        }
      }
    }
    edges.of(14, "SHEET: two leaves are of one sheet");
    edges.is(8, "in all places", NEW.leaves(0, 2).fact(SHEET, 0, 1), x -> x.arrangements(0, false));
    edges.is(2, "on one sheet", NEW.sheets(0, 1).leaves(0, 2).fact(SHEET, 1, 0), x -> x.arrangements(0, false));
    edges.is(0, "apart on one sheet", NEW.sheets(0, 1).leaves(0, 2).fact(APART, 1, 0), x -> x.arrangements(0, false));
    Past moved = NEW.leaves(0, 2).fact(AT, 0, 0).fact(SHEET, 0, 1);
    edges.is(1 << 7, "the last place of 4 sheets", moved, x -> x.places(1, false));
    edges.is(1 << 1, "the last place of 1 sheet then", moved.sheets(0, 1), x -> x.places(1, false));
  }

  private void next() {
    edges.of(14, "NEXT: the second one stands right behind the first one");
    for (int first = 0; first < 8; first++) {
      for (int second = 0; second < 8; second++) {
        if (first != second) placed(second == first + 1 ? 1 : 0, NEXT, first, second, 4);
      }
    }
    placed(1, NEXT, 0, 1, 1);
    placed(0, NEXT, 1, 0, 1);
    Past round = NEW.sheets(0, 1).leaves(0, 2).fact(NEXT, 0, 1).fact(NEXT, 1, 0);
    edges.is(0, "not around from the last place to the first", round, x -> x.arrangements(0, false));
    edges.is(7, "in all places", NEW.leaves(0, 2).fact(NEXT, 1, 0), x -> x.arrangements(0, false));
    edges.is(0b11111110, "never at the first place", NEW.leaves(0, 2).fact(NEXT, 1, 0), x -> x.places(0, false));
    edges.is(0b01111111, "never at the last place", NEW.leaves(0, 2).fact(NEXT, 1, 0), x -> x.places(1, false));
  }

  private void ahead() {
    edges.of(14, "AHEAD: the first one stands somewhere ahead of the second one");
    for (int first = 0; first < 8; first++) {
      for (int second = 0; second < 8; second++) {
        if (first != second) placed(first < second ? 1 : 0, AHEAD, first, second, 4);
      }
    }
    Past round = NEW.leaves(0, 3).fact(AHEAD, 0, 1).fact(AHEAD, 1, 2);
    edges.is(56, "three in a row", round, x -> x.arrangements(0, false));
    edges.is(0, "not around", round.fact(AHEAD, 2, 0), x -> x.arrangements(0, false));
  }

  private void at() {
    edges.of(14, "AT: a leaf is at a place");
    for (int i = 0; i < 8; i++) {
      int place = i;
      Past past = NEW.leaves(0, 2).fact(AT, 1, place);
      edges.is(7, "place " + place, past, x -> x.arrangements(0, false));
      edges.is(1 << place, "the places of one at " + place, past, x -> x.places(1, false));
      edges.is(255 - (1 << place), "the places of the other than at " + place, past, x -> x.places(0, false));
      edges.is(0, "two at " + place, past.fact(AT, 0, place), x -> x.arrangements(0, false));
    }
    edges.is(0, "one at two places", NEW.leaves(0, 1).fact(AT, 0, 0).fact(AT, 0, 1), x -> x.arrangements(0, false));
  }

  private void atFewerPlaces() {
    edges.of(14, "(which does not hold, if the book has fewer by then)");
    for (int i = 1; i <= 3; i++) {
      int sheets = i;
      Past within = NEW.leaves(0, 2).fact(AT, 0, 2 * sheets - 1).sheets(0, sheets);
      edges.is(2 * sheets - 1, "the last place of " + sheets, within, x -> x.arrangements(0, false));
      Past beyond = NEW.leaves(0, 2).fact(AT, 0, 2 * sheets).sheets(0, sheets);
      edges.is(0, "the first place that " + sheets + " have not", beyond, x -> x.arrangements(0, false));
      edges.is(0, "no place at all", beyond, x -> x.places(0, false));
      edges.is(0, "no place of the other leaf", beyond, x -> x.places(1, false));
      edges.is(true, "told to hold, it holds", beyond, x -> x.hold(0, true));
      edges.is(2 * sheets * (2 * sheets - 1), "fallen", beyond.hold(0, false), x -> x.arrangements(0, false));
      edges.is(7, "as many places again", beyond.sheets(0, 4), x -> x.arrangements(0, false));
      Past likely = NEW.leaves(0, 2).likely(AT, 0, 2 * sheets).sheets(0, sheets);
      edges.is(0, "a LIKELY one, by all", likely, x -> x.arrangements(0, true));
      edges.is(2 * sheets * (2 * sheets - 1), "a LIKELY one, by the CERTAIN", likely, x -> x.arrangements(0, false));
    }
  }

  private void worms() {
    edges.of(16, "if for each wormhole no leaf without it stands between two with it");
    Past two = NEW.sheets(0, 2).leafOf(0, NONE, 1).leafOf(0, NONE, 1);
    edges.is(12, "two with it, and empty places", two, x -> x.arrangements(0, true));
    edges.is(24, "three with it", two.leafOf(0, NONE, 1), x -> x.arrangements(0, true));
    edges.is(16, "one without it, not between", two.leafOf(0, NONE, 0), x -> x.arrangements(0, true));
    edges.is(16, "one with another hole, not between", two.leafOf(0, NONE, 2), x -> x.arrangements(0, true));
    edges.is(24, "one with another hole too", two.leafOf(0, NONE, 3), x -> x.arrangements(0, true));
    edges.is(24, "a hole that one leaf has", NEW.sheets(0, 2).leafOf(0, NONE, 1).leaves(0, 2), x -> x.arrangements(0, true));
    Past pinned = NEW.leafOf(0, NONE, 1).leafOf(0, NONE, 1).leafOf(0, NONE, 0).fact(AT, 0, 2).fact(AT, 1, 5);
    for (int i = 0; i < 8; i++) {
      int place = i;
      if (place == 2 || place == 5) continue;
      boolean between = place > 2 && place < 5;
      edges.is(between ? 0 : 1, "one without it at " + place, pinned.fact(AT, 2, place), x -> x.arrangements(0, true));
    }
    Past ends = NEW.leafOf(0, NONE, 1).leafOf(0, NONE, 1).leafOf(0, NONE, 0).fact(AT, 0, 0).fact(AT, 1, 7);
    edges.is(0, "the first and the last place are not side by side", ends, x -> x.arrangements(0, true));
    Past right = NEW.leafOf(0, NONE, 1).leafOf(0, NONE, 1).leafOf(0, NONE, 0).fact(NEXT, 0, 1);
    edges.is(7 * 6, "nothing stands between two that are next", right, x -> x.arrangements(0, true));
  }

  private void wormPlaces() {
    edges.of(16, "wormholes, a set of the places 0 to 7");
    for (int place = 0; place < 8; place++) {
      Past past = NEW.sheets(0, 2).leafOf(0, NONE, 1 << place).leafOf(0, NONE, 1 << place);
      edges.is(16, "a hole at " + place, past.leafOf(0, NONE, 0), x -> x.arrangements(0, true));
      edges.is(16, "all other holes, and not at " + place, past.leafOf(0, NONE, 255 - (1 << place)), x -> x.arrangements(0, true));
      edges.is(24, "all holes beside " + place, past.leafOf(0, NONE, 255), x -> x.arrangements(0, true));
    }
    Past all = NEW.sheets(0, 2).leafOf(0, NONE, 255).leafOf(0, NONE, 255);
    edges.is(16, "all holes and none", all.leafOf(0, NONE, 0), x -> x.arrangements(0, true));
    edges.is(24, "all holes", all.leafOf(0, NONE, 255), x -> x.arrangements(0, true));
    Past six = NEW.sheets(1, 3);
    for (int i = 0; i < 6; i++) six = six.leafOf(1, NONE, (i > 0 ? 1 << i - 1 : 0) | 1 << i);
    edges.is(2, "six leaves, five holes of two each: one row, there and back", six, x -> x.arrangements(1, true));
  }

  private void fronts() {
    edges.of(16, "if of leaves in places p and p + 1 whose front sides are known just one has HAIR in front");
    for (int i = NONE; i <= FLESH; i++) {
      for (int k = NONE; k <= FLESH; k++) {
        boolean known = i != NONE && k != NONE;
        Past past = NEW.sheets(0, 1).leafOf(0, i, 0).leafOf(0, k, 0);
        edges.is(known && i == k ? 0 : 2, i + " beside " + k, past, x -> x.arrangements(0, true));
        Past four = NEW.leafOf(0, i, 0).leafOf(0, k, 0);
        edges.is(known && i == k ? 56 - 14 : 56, i + " and " + k + " in all places", four, x -> x.arrangements(0, true));
      }
    }
    edges.of(16, "a front side that is HAIR or FLESH, or not known");
    Past row = NEW.sheets(0, 2).leafOf(0, HAIR, 0).leafOf(0, HAIR, 0).leafOf(0, FLESH, 0).leafOf(0, FLESH, 0);
    edges.is(8, "four in turns", row, x -> x.arrangements(0, true));
    Past one = NEW.sheets(0, 2).leafOf(0, HAIR, 0).leafOf(0, HAIR, 0).leafOf(0, HAIR, 0).leafOf(0, NONE, 0);
    edges.is(0, "three HAIR cannot be kept apart by one", one, x -> x.arrangements(0, true));
  }

  private void frontEdges() {
    edges.of(16, "of leaves in places p and p + 1");
    for (int i = 0; i < 8; i++) {
      for (int k = 0; k < 8; k++) {
        if (i == k) continue;
        Past past = NEW.leafOf(0, HAIR, 0).leafOf(0, HAIR, 0).fact(AT, 0, i).fact(AT, 1, k);
        boolean beside = i + 1 == k || k + 1 == i;
        edges.is(beside ? 0 : 1, "HAIR at " + i + " and " + k, past, x -> x.arrangements(0, true));
        Past flesh = NEW.leafOf(0, FLESH, 0).leafOf(0, HAIR, 0).fact(AT, 0, i).fact(AT, 1, k);
        edges.is(1, "FLESH at " + i + ", HAIR at " + k, flesh, x -> x.arrangements(0, true));
      }
    }
    Past unknown = NEW.leafOf(0, HAIR, 0).leafOf(0, NONE, 0).leafOf(0, HAIR, 0).fact(NEXT, 0, 1).fact(NEXT, 1, 2);
    edges.is(6, "one that is not known between two", unknown, x -> x.arrangements(0, true));
  }

  private void placeRanges() {
    Past past = NEW.leaves(0, 2).leaves(1, 1).fact(AT, 0, 3);
    edges.range(17, "`leaf`: a leaf", past, 0, 2, INDEX, (x, n) -> x.places(n, true));
    edges.range(17, "if there is no such leaf", NEW.leaves(0, 5).leaves(1, 5), 0, 9, INDEX, (x, n) -> x.places(n, false));
    edges.refuses(INDEX, "no leaf at all", NEW, x -> x.places(0, true));
  }

  private void placeSets() {
    edges.of(17, "Returns which places a leaf has in arrangements that fit.");
    edges.of(17, "Returns the sum of 2 to the power of each.");
    for (int i = 1; i <= 4; i++) {
      int sheets = i;
      Past past = NEW.sheets(0, sheets).leaves(0, 1);
      edges.is((1 << 2 * sheets) - 1, "all places of " + sheets, past, x -> x.places(0, true));
      edges.is(1, "the first alone of " + sheets, past.fact(AT, 0, 0), x -> x.places(0, true));
      edges.is(1 << 2 * sheets - 1, "the last alone of " + sheets, past.fact(AT, 0, 2 * sheets - 1), x -> x.places(0, true));
    }
    Past none = NEW.leaves(0, 2).leaves(1, 1).fact(AT, 0, 0).fact(AT, 1, 0);
    edges.is(0, "no arrangement", none, x -> x.places(0, true));
    edges.is(0, "no arrangement by the CERTAIN", none, x -> x.places(1, false));
    edges.is(255, "of the other book", none, x -> x.places(2, true));
    edges.is(63, "a full book", NEW.sheets(0, 3).leaves(0, 6), x -> x.places(5, true));
  }

  private void joinedRanges() {
    Past three = NEW.leaves(0, 3);
    edges.range(18, "`leaf`: a leaf", three, 0, 2, INDEX, (x, n) -> x.joined(n, 1));
    edges.range(18, "`other`: another one", three, 0, 2, INDEX, (x, n) -> x.joined(1, n));
    Past past = NEW.leaves(0, 1).leaves(1, 1).leaves(0, 2);
    edges.of(18, "if there is no such leaf, of either");
    edges.refuses(INDEX, "the first is none", past, x -> x.joined(4, 0));
    edges.refuses(INDEX, "the second is none", past, x -> x.joined(0, 4));
    edges.refuses(INDEX, "no leaf at all", NEW, x -> x.joined(0, 1));
    edges.of(18, "if both are one, or of two books");
    edges.refuses(ARGUMENT, "both are the first", past, x -> x.joined(0, 0));
    edges.refuses(ARGUMENT, "both are the last", past, x -> x.joined(3, 3));
    edges.refuses(ARGUMENT, "of books 0 and 1", past, x -> x.joined(0, 1));
    edges.refuses(ARGUMENT, "of books 1 and 0", past, x -> x.joined(1, 3));
    edges.of(18, ORDER);
    edges.refuses(INDEX, "no leaf, and it is both", past, x -> x.joined(4, 4));
    edges.refuses(INDEX, "no leaf, and it is both, below", past, x -> x.joined(-1, -1));
    edges.refuses(INDEX, "no leaf beside one of the other book", past, x -> x.joined(1, -1));
  }

  private void joinedCounts() {
    edges.of(18, "Returns how it stands with two leaves being of one sheet: in how many arrangements that fit by the CERTAIN facts they are.");
    edges.of(18, "Returns 0 if in none; 2 if in all, and there is one; otherwise 1.");
    Past past = NEW.sheets(0, 2).leaves(0, 2);
    edges.is(1, "in some", past, x -> x.joined(0, 1));
    edges.is(0, "in none, as a fact tells", past.fact(APART, 0, 1), x -> x.joined(0, 1));
    edges.is(2, "in all, as a fact tells", past.fact(SHEET, 0, 1), x -> x.joined(1, 0));
    edges.is(1, "in one of three", past.fact(AT, 0, 0).fact(AHEAD, 0, 1), x -> x.joined(0, 1));
    edges.is(0, "in none, and there is one", past.fact(AT, 0, 0).fact(AT, 1, 1), x -> x.joined(0, 1));
    edges.is(2, "in all, and there is just one", past.fact(AT, 0, 0).fact(AT, 1, 3), x -> x.joined(0, 1));
    edges.is(0, "in all of none", past.fact(SHEET, 0, 1).fact(APART, 0, 1), x -> x.joined(0, 1));
    edges.is(0, "in all of none, by places", past.fact(SHEET, 0, 1).fact(AT, 0, 0).fact(AT, 1, 0), x -> x.joined(0, 1));
    edges.is(2, "on one sheet there is no other way", NEW.sheets(1, 1).leaves(1, 2), x -> x.joined(0, 1));
    edges.is(1, "a LIKELY one does not count", past.likely(APART, 0, 1), x -> x.joined(0, 1));
    edges.is(1, "one that fell does not count", past.fact(APART, 0, 1).hold(0, false), x -> x.joined(0, 1));
    edges.is(2, "the innermost sheet", NEW.leaves(0, 2).fact(AT, 0, 4).fact(AT, 1, 3), x -> x.joined(0, 1));
    edges.is(2, "the outermost sheet", NEW.leaves(0, 2).fact(AT, 0, 7).fact(AT, 1, 0), x -> x.joined(0, 1));
    edges.is(0, "the first places of two sheets", NEW.leaves(0, 2).fact(AT, 0, 0).fact(AT, 1, 1), x -> x.joined(0, 1));
  }
}
