/** The edges of promises 23 to 27, and of what the document says ahead of them on works and editions. */
final class EditionsEdges {
  private static final int NONE = Undertext.NONE;
  private static final int SHEET = Undertext.SHEET;
  private static final int NEXT = Undertext.NEXT;
  private static final int AHEAD = Undertext.AHEAD;
  private static final int AT = Undertext.AT;
  private static final int APART = Undertext.APART;
  private static final int LOST = Undertext.LOST;
  private static final int BLANK = Undertext.BLANK;
  private static final int SURE = Undertext.SURE;
  private static final int READ = Undertext.READ;
  private static final int RESTORED = Undertext.RESTORED;
  private static final int DOUBTFUL = Undertext.DOUBTFUL;
  private static final String INDEX = Edges.INDEX;
  private static final String ARGUMENT = Edges.ARGUMENT;
  private static final String ORDER = "if several exceptions apply, the one that its @throws lines name first is thrown";
  private static final Past NEW = Past.NEW;

  private final Edges edges;

  EditionsEdges(Edges edges) {
    this.edges = edges;
  }

  void ask() {
    matchRanges();
    matchOrder();
    matchCosts();
    matchEnds();
    matchNothing();
    matchUnread();
    editionRanges();
    editionPlaces();
    editionNone();
    stateRanges();
    statesLost();
    states();
    stateWeights();
    restsRanges();
    restsOn();
    restsNot();
    worthNone();
    worthCells();
    worthPlaces();
  }

  private void matchRanges() {
    Past past = NEW.leaf(0, 1, 1).then(x -> x.leaf(1, 2, 3, NONE, 0)).word(5).work(5).work(6);
    edges.range(23, "`work`: a work", past, 0, 1, INDEX, (x, n) -> x.match(n, 0, 0, 0, false));
    edges.range(23, "`work`: a work", past.work(7).work(8), 0, 3, INDEX, (x, n) -> x.match(n, 0, 0, 0, true));
    edges.range(23, "`leaf`: a leaf", past, 0, 1, INDEX, (x, n) -> x.match(1, n, 0, 0, false));
    edges.range(23, "`line`: from 0", past, 0, 1, INDEX, (x, n) -> x.match(1, 1, n, 0, true));
    edges.range(23, "`layer`: 0 to 7", past, 0, 7, ARGUMENT, (x, n) -> x.match(1, 1, 1, n, false));
    edges.of(23, "if there is no such work, leaf or line");
    edges.refuses(INDEX, "none of three", past, x -> x.match(2, 2, 2, 0, false));
    edges.refuses(INDEX, "no work at all", NEW.leaf(0, 1, 1).word(5), x -> x.match(0, 0, 0, 0, false));
    edges.refuses(INDEX, "no leaf at all", NEW.word(5).work(5), x -> x.match(0, 0, 0, 0, false));
    edges.refuses(INDEX, "a line that another leaf has", past, x -> x.match(0, 0, 1, 0, false));
    edges.refuses(INDEX, "no work, and a line that cannot be read", NEW.leaf(0, 1, 1), x -> x.match(0, 0, 0, 0, false));
    edges.of(23, "if layer is out of range");
    edges.refuses(ARGUMENT, "a scholar too many", past, x -> x.match(0, 0, 0, 8, true));
    edges.refuses(ARGUMENT, "of a line that cannot be read", NEW.leaf(0, 1, 1).work(5), x -> x.match(0, 0, 0, 8, true));
  }

  private void matchOrder() {
    edges.of(23, ORDER);
    Past past = NEW.leaf(0, 1, 1).word(5).work(5);
    edges.refuses(INDEX, "no work, no layer", past, x -> x.match(1, 0, 0, 8, false));
    edges.refuses(INDEX, "no leaf, no layer", past, x -> x.match(0, 1, 0, -1, false));
    edges.refuses(INDEX, "no line, no layer", past, x -> x.match(0, 0, -1, 8, true));
  }

  /** A line of one word, in a work: what it costs, and where it ends. */
  private void matched(String what, int cost, int end, int[] work, int... line) {
    Past past = NEW.leaf(0, 1, line.length).word(line).work(work);
    edges.of(23, "Returns what a line costs in a work, or where it ends there.");
    edges.of(23, "`ends`: whether where it ends is asked");
    edges.is(cost, what + ": the cost", past, x -> x.match(0, 0, 0, 0, false));
    edges.is(end, what + ": the end", past, x -> x.match(0, 0, 0, 0, true));
  }

  private static int[] of(int... letters) {
    return letters;
  }

  private void matchCosts() {
    edges.of(23, "Returns the cost, or the place; NONE if the line cannot be read.");
    edges.of(23, "one that stands for another one costs 1, one that the work has not, or one of the work that is left out, 2 each");
    matched("none for another", 0, 3, of(1, 2, 3), 1, 2, 3);
    matched("the first for another", 1, 3, of(1, 2, 3), 9, 2, 3);
    matched("the last for another", 1, 3, of(1, 2, 3), 1, 2, 9);
    matched("the one in the middle for another", 1, 3, of(1, 2, 3), 1, 9, 3);
    matched("all for others", 3, 3, of(1, 2, 3), 7, 8, 9);
    matched("one that the work has not, in the middle", 2, 4, of(1, 2, 3, 4), 1, 2, 9, 3, 4);
    matched("one that the work has not, ahead of a whole work", 2, 2, of(1, 2), 9, 1, 2);
    matched("one that the work has not, behind a whole work", 2, 2, of(1, 2), 1, 2, 9);
    matched("one of the work left out", 2, 7, of(1, 2, 3, 9, 4, 5, 6), 1, 2, 3, 4, 5, 6);
    matched("one for another, which is cheaper than one left out", 1, 3, of(1, 2, 9, 3), 1, 2, 3);
    matched("what stands ahead in the work costs nothing", 0, 6, of(9, 9, 9, 9, 1, 2), 1, 2);
    matched("what stands behind in the work costs nothing", 0, 2, of(1, 2, 9, 9, 9, 9), 1, 2);
    matched("one letter of one", 0, 1, of(0), 0);
    matched("one letter of another", 1, 1, of(0), 25);
    matched("eight letters of one that is another", 15, 1, of(0), 1, 1, 1, 1, 1, 1, 1, 1);
    matched("eight letters of one that is one of them", 14, 1, of(0), 1, 1, 1, 1, 1, 1, 1, 0);
    matched("eight letters of eight others", 8, 8, new int[8], 1, 1, 1, 1, 1, 1, 1, 1);
    edges.of(23, "of the letters of the first best reading, one behind the other");
    Past two = NEW.leaf(0, 1, 1).word(3).word(4).work(4);
    edges.is(1, "the first one, not the cheapest", two, x -> x.match(0, 0, 0, 0, false));
    edges.is(0, "the one with the greatest weight", two.give(0, 0, 0, 4, 1), x -> x.match(0, 0, 0, 1, false));
    edges.is(1, "by a layer without it", two.give(0, 0, 0, 4, 1), x -> x.match(0, 0, 0, 6, false));
    Past past = NEW.leaf(0, 1, 3).word(1).word(2).give(0, 0, 0, 1, 1).give(0, 0, 2, 2, 1).blank(0, 1);
    edges.is(0, "a BLANK cell is no letter", past.work(1, 2), x -> x.match(0, 0, 0, 1, false));
    edges.is(2, "a BLANK cell is no letter, nor in the end", past.work(1, 2), x -> x.match(0, 0, 0, 1, true));
  }

  private void matchEnds() {
    edges.of(23, "Where the line ends is the least place at which a stretch with that cost ends: how many letters of the work are up to there.");
    int[] longest = new int[40];
    for (int place = 0; place < 40; place++) {
      int[] work = longest.clone();
      work[place] = 7;
      matched("one letter at " + place + " of 40", 0, place + 1, work, 7);
    }
    matched("at all places: the least", 0, 1, longest, 0);
    matched("eight at all places: the least", 0, 8, longest, 0, 0, 0, 0, 0, 0, 0, 0);
    matched("at no place: the least that is another", 1, 1, longest, 7);
    matched("eight at no place: the least of others", 8, 8, longest, 7, 7, 7, 7, 7, 7, 7, 7);
    matched("twice", 0, 2, of(1, 2, 1, 2), 1, 2);
    matched("cheaper at a later place", 0, 5, of(1, 9, 9, 1, 2), 1, 2);
    matched("cheapest at the last of 40", 0, 40, lastOf(longest, 7, 8), 7, 8);
    edges.of(23, "each of 1 to 40 letters");
    matched("the last letter alone", 0, 40, lastOf(longest, 7), 7);
    matched("across the whole", 6, 2, of(5, 6), 5, 1, 1, 1, 6);
  }

  private static int[] lastOf(int[] work, int... letters) {
    int[] with = work.clone();
    System.arraycopy(letters, 0, with, with.length - letters.length, letters.length);
    return with;
  }

  private void matchNothing() {
    edges.of(23, "The cost of a line in a work is the least of all stretches of the work, also empty ones");
    for (int i = 1; i <= 8; i++) {
      Past past = NEW.leaf(0, 1, i).work(1).work(1, 2, 3).type(new int[40]).then(Undertext::work);
      for (int cell = 0; cell < i; cell++) past = past.blank(0, cell);
      for (int k = 0; k < 3; k++) {
        int work = k;
        edges.is(0, i + " BLANK cells alone cost nothing in " + work, past, x -> x.match(work, 0, 0, 7, false));
        edges.is(0, i + " BLANK cells alone end ahead of " + work, past, x -> x.match(work, 0, 0, 7, true));
      }
    }
    matched("an empty stretch is never cheaper than one letter", 1, 1, of(1), 9);
    matched("two letters, of which the work has one", 3, 1, of(1), 9, 9);
  }

  private void matchUnread() {
    edges.of(23, "NONE if the line cannot be read");
    Past past = NEW.leaf(0, 1, 2).word(1, 2, 3).work(1, 2);
    edges.is(NONE, "the cost", past, x -> x.match(0, 0, 0, 0, false));
    edges.is(NONE, "the end", past, x -> x.match(0, 0, 0, 0, true));
    edges.is(NONE, "no lexicon", NEW.leaf(0, 1, 2).work(1, 2), x -> x.match(0, 0, 0, 0, false));
    Past half = past.word(1).give(0, 0, 0, 9, 1);
    edges.is(NONE, "a letter that no word has", half, x -> x.match(0, 0, 0, 1, true));
    edges.is(1, "by a layer without it", half, x -> x.match(0, 0, 0, 2, false));
  }

  private void editionRanges() {
    edges.range(24, "`book`: 0 or 1", NEW.leaves(1, 1), 0, 1, INDEX, (x, n) -> x.edition(n, 0));
    edges.range(24, "`place`: a place of it", NEW.leaves(1, 1), 0, 7, INDEX, (x, n) -> x.edition(0, n));
    edges.of(24, "if there is no such book or place");
    for (int i = 1; i <= 4; i++) {
      int sheets = i;
      Past past = NEW.leaves(0, 2).sheets(0, sheets);
      edges.range(24, "if there is no such book or place", past, 0, 2 * sheets - 1, INDEX, (x, n) -> x.edition(0, n));
      edges.range(24, "if there is no such book or place", past, 0, 7, INDEX, (x, n) -> x.edition(1, n));
    }
    edges.refuses(INDEX, "neither book nor place", NEW, x -> x.edition(2, 8));
  }

  private void editionPlaces() {
    edges.of(24, "Returns which leaf is placed at a place.");
    edges.of(24, "The edition of a book has for each place the leaf that is placed there");
    for (int i = 0; i < 8; i++) {
      int place = i;
      Past past = NEW.leaves(1, 2).leaves(0, 1).fact(AT, 1, place).fact(AT, 2, 7 - place);
      for (int k = 0; k < 8; k++) {
        int asked = k;
        edges.is(asked == place ? 1 : NONE, "place " + asked + " of book 1, one at " + place, past, x -> x.edition(1, asked));
        edges.is(asked == 7 - place ? 2 : NONE, "place " + asked + " of book 0, one at " + (7 - place), past, x -> x.edition(0, asked));
      }
    }
    Past full = NEW.sheets(0, 3).leaves(0, 6);
    for (int leaf = 0; leaf < 5; leaf++) full = full.fact(AT, leaf, 5 - leaf);
    for (int i = 0; i < 6; i++) {
      int place = i;
      edges.is(5 - place, "all six are placed, place " + place, full, x -> x.edition(0, place));
    }
    edges.is(9, "the last leaf", NEW.leaves(0, 5).leaves(1, 5).fact(AT, 9, 7), x -> x.edition(1, 7));
  }

  private void editionNone() {
    edges.of(24, "Returns the leaf, NONE without.");
    edges.of(24, "A leaf is placed, if by the CERTAIN ones there is an arrangement, and it has the same place in all.");
    edges.is(NONE, "no leaf", NEW, x -> x.edition(0, 0));
    edges.is(NONE, "one leaf at any place", NEW.leaves(0, 1), x -> x.edition(0, 0));
    edges.is(NONE, "one leaf at one of two places", NEW.sheets(0, 1).leaves(0, 1), x -> x.edition(0, 0));
    edges.is(0, "one leaf at one place", NEW.sheets(0, 1).leaves(0, 1).fact(AT, 0, 0), x -> x.edition(0, 0));
    edges.is(NONE, "by a LIKELY fact", NEW.sheets(0, 1).leaves(0, 1).likely(AT, 0, 0), x -> x.edition(0, 0));
    edges.is(NONE, "by one that fell", NEW.leaves(0, 1).fact(AT, 0, 0).hold(0, false), x -> x.edition(0, 0));
    Past against = NEW.leaves(0, 1).fact(AT, 0, 0);
    edges.is(0, "with a LIKELY fact against it", against.likely(AT, 0, 1), x -> x.edition(0, 0));
    edges.is(NONE, "with a CERTAIN fact against it", against.fact(AT, 0, 1), x -> x.edition(0, 0));
    edges.is(NONE, "with a CERTAIN fact against it, there", against.fact(AT, 0, 1), x -> x.edition(0, 1));
    Past none = NEW.leaves(0, 2).fact(AT, 0, 0).fact(SHEET, 0, 1).fact(APART, 0, 1);
    for (int i = 0; i < 8; i++) {
      int place = i;
      edges.is(NONE, "no arrangement, place " + place, none, x -> x.edition(0, place));
    }
    edges.is(NONE, "a place that is no more", NEW.leaves(0, 1).fact(AT, 0, 7).sheets(0, 3), x -> x.edition(0, 5));
  }

  private void stateRanges() {
    Past past = NEW.leaf(0, 1, 1).then(x -> x.leaf(1, 2, 3, NONE, 0)).word(5).give(1, 1, 2, 5, 4);
    edges.range(25, "`leaf`: a leaf", past, 0, 1, INDEX, (x, n) -> x.state(n, 0, 0, 2));
    edges.range(25, "`line`: from 0", past, 0, 1, INDEX, (x, n) -> x.state(1, n, 0, 2));
    edges.range(25, "`cell`: from 0", past, 0, 2, INDEX, (x, n) -> x.state(1, 1, n, 2));
    edges.range(25, "`layer`: 0 to 7", past, 0, 7, ARGUMENT, (x, n) -> x.state(1, 0, 2, n));
    edges.of(25, "if there is no such leaf, line or cell");
    edges.refuses(INDEX, "none of three", past, x -> x.state(2, 2, 3, 0));
    edges.refuses(INDEX, "no leaf at all", NEW, x -> x.state(0, 0, 0, 0));
    edges.refuses(INDEX, "a cell that another leaf has", past, x -> x.state(0, 0, 1, 0));
    edges.of(25, "if layer is out of range");
    edges.refuses(ARGUMENT, "a scholar too many", past, x -> x.state(0, 0, 0, 8));
    edges.refuses(ARGUMENT, "of a line that cannot be read", NEW.leaf(0, 1, 1), x -> x.state(0, 0, 0, -1));
    edges.of(25, ORDER);
    edges.refuses(INDEX, "no leaf, no layer", past, x -> x.state(2, 0, 0, 8));
    edges.refuses(INDEX, "no line, no layer", past, x -> x.state(0, 1, 0, 8));
    edges.refuses(INDEX, "no cell, no layer", past, x -> x.state(0, 0, 1, -1));
  }

  private void statesLost() {
    edges.of(25, "Returns LOST to DOUBTFUL.");
    edges.of(25, "LOST, if its line cannot be read, BLANK cells of it, too");
    Past past = NEW.leaf(0, 1, 3).word(1, 2, 3).give(0, 0, 0, 1, 9);
    edges.is(LOST, "no lexicon", NEW.leaf(0, 1, 3), x -> x.state(0, 0, 0, 7));
    edges.is(LOST, "no lexicon, a letter given", NEW.leaf(0, 1, 3).give(0, 0, 0, 1, 9), x -> x.state(0, 0, 0, 7));
    edges.is(LOST, "no lexicon, a BLANK cell", NEW.leaf(0, 1, 3).blank(0, 2), x -> x.state(0, 0, 2, 7));
    for (int i = 0; i < 3; i++) {
      int blank = i;
      for (int k = 0; k < 3; k++) {
        int cell = k;
        edges.is(LOST, "cell " + cell + ", BLANK is " + blank, past.blank(0, blank), x -> x.state(0, 0, cell, 7));
      }
    }
    edges.of(25, "Returns how a cell stands in an edition, its leaf being placed or not.");
    edges.is(SURE, "not placed", past, x -> x.state(0, 0, 0, 7));
    edges.is(SURE, "placed", past.fact(AT, 0, 0), x -> x.state(0, 0, 0, 7));
    edges.is(SURE, "no arrangement", past.fact(AT, 0, 0).fact(AT, 0, 1), x -> x.state(0, 0, 0, 7));
    edges.is(LOST, "placed, and cannot be read", NEW.leaf(0, 1, 3).fact(AT, 0, 0), x -> x.state(0, 0, 0, 7));
    edges.of(25, "BLANK; SURE");
    for (int i = 1; i <= 8; i++) {
      int cells = i;
      Past all = NEW.leaf(0, 1, cells);
      for (int cell = 0; cell < cells; cell++) all = all.blank(0, cell);
      edges.is(BLANK, cells + " BLANK cells alone", all, x -> x.state(0, 0, cells - 1, 7));
      edges.is(BLANK, cells + " BLANK cells alone, a lexicon", all.word(1), x -> x.state(0, 0, 0, 0));
    }
    edges.is(BLANK, "a BLANK cell beside a word", NEW.leaf(0, 1, 2).word(1).blank(0, 1), x -> x.state(0, 0, 1, 0));
    edges.is(BLANK, "a BLANK cell with letters", NEW.leaf(0, 1, 2).word(1).give(0, 0, 1, 1, 3).blank(0, 1), x -> x.state(0, 0, 1, 1));
  }

  private void states() {
    Past past = NEW.leaf(0, 1, 2).word(1, 2).word(1, 3);
    edges.of(25, "SURE, if all best readings have the same letter there, and the layer gives just that one");
    edges.is(SURE, "one given, in two readings", past.give(0, 0, 0, 1, 1), x -> x.state(0, 0, 0, 1));
    edges.is(SURE, "one given, in one reading", past.give(0, 0, 1, 3, 1), x -> x.state(0, 0, 1, 1));
    Past three = past.give(0, 0, 0, 1, 1).give(1, 0, 0, 1, 1).give(2, 0, 0, 1, 1);
    edges.is(SURE, "one given by three", three, x -> x.state(0, 0, 0, 7));
    edges.of(25, "DOUBTFUL, if they have unlike ones");
    edges.is(DOUBTFUL, "given by none", past, x -> x.state(0, 0, 1, 7));
    edges.is(DOUBTFUL, "both given, as weighty", past.give(0, 0, 1, 2, 1).give(0, 0, 1, 3, 1), x -> x.state(0, 0, 1, 7));
    edges.is(DOUBTFUL, "all letters", NEW.leaf(0, 1, 1).words(12), x -> x.state(0, 0, 0, 0));
    edges.is(DOUBTFUL, "the least and the greatest letter", NEW.leaf(0, 1, 1).word(0).word(25), x -> x.state(0, 0, 0, 0));
    Past twelve = NEW.leaf(0, 1, 1).words(12).give(0, 0, 0, 0, 5);
    edges.is(DOUBTFUL, "the first word and the twelfth", twelve.give(0, 0, 0, 11, 5), x -> x.state(0, 0, 0, 1));
    edges.is(READ, "the twelfth word alone", twelve.give(0, 0, 0, 11, 6), x -> x.state(0, 0, 0, 1));
    edges.of(25, "RESTORED, if the same, and the layer gives none");
    edges.is(RESTORED, "in two readings", past, x -> x.state(0, 0, 0, 7));
    edges.is(RESTORED, "in one reading", past.give(0, 0, 1, 3, 1), x -> x.state(0, 0, 0, 7));
    edges.is(RESTORED, "given, but not by the layer", past.give(0, 0, 0, 1, 1), x -> x.state(0, 0, 0, 6));
    edges.is(RESTORED, "by the empty layer", three, x -> x.state(0, 0, 0, 0));
    edges.is(RESTORED, "the greatest letter", NEW.leaf(0, 1, 1).word(25), x -> x.state(0, 0, 0, 0));
    edges.is(RESTORED, "the least letter", NEW.leaf(0, 1, 1).word(0), x -> x.state(0, 0, 0, 0));
    edges.of(25, "otherwise READ");
    edges.is(READ, "one of two given, by weight", past.give(0, 0, 1, 2, 1).give(0, 0, 1, 3, 2), x -> x.state(0, 0, 1, 7));
    edges.is(READ, "one of two given, the other is in no word", past.give(0, 0, 0, 1, 1).give(0, 0, 0, 9, 9), x -> x.state(0, 0, 0, 7));
    edges.is(READ, "one of two given by two", past.give(0, 0, 0, 1, 1).give(1, 0, 0, 9, 9), x -> x.state(0, 0, 0, 7));
    edges.is(SURE, "the other is not of the layer", past.give(0, 0, 0, 1, 1).give(1, 0, 0, 9, 9), x -> x.state(0, 0, 0, 5));
    Past nine = NEW.leaf(0, 1, 1).word(0);
    for (int scholar = 0; scholar < 3; scholar++) {
      for (int letter = 0; letter < 3; letter++) nine = nine.give(scholar, 0, 0, 3 * scholar + letter, 9);
    }
    edges.is(READ, "one of nine given", nine, x -> x.state(0, 0, 0, 7));
  }

  private void stateWeights() {
    edges.of(25, "SURE, if all best readings have the same letter there");
    Past past = NEW.leaf(0, 1, 2).word(1, 2).word(3, 4);
    edges.is(DOUBTFUL, "as weighty, by letters of unlike cells", past.give(0, 0, 0, 1, 5).give(0, 0, 0, 3, 1).give(0, 0, 1, 2, 1).give(0, 0, 1, 4, 5), x -> x.state(0, 0, 0, 1));
    edges.is(READ, "by one more", past.give(0, 0, 0, 1, 6).give(0, 0, 0, 3, 1).give(0, 0, 1, 2, 1).give(0, 0, 1, 4, 5), x -> x.state(0, 0, 0, 1));
    Past gap = NEW.leaf(0, 1, 3).word(0).word(2, 25).word(3).give(0, 0, 0, 0, 9).give(0, 0, 0, 2, 3).give(0, 0, 1, 25, 5).give(0, 0, 2, 3, 1);
    edges.is(SURE, "what does not fit is in no reading, though as weighty but for it", gap, x -> x.state(0, 0, 1, 1));
    Past unreached = NEW.leaf(0, 1, 3).word(0, 1, 2).word(5, 6).give(0, 0, 1, 1, 1).give(0, 0, 1, 5, 2).give(0, 0, 2, 2, 1).give(0, 0, 2, 6, 1);
    edges.is(READ, "what nothing stands ahead of is in no reading", unreached, x -> x.state(0, 0, 1, 1));
    Past dead = NEW.leaf(0, 1, 2).word(1, 2).word(3).give(0, 0, 0, 1, 1).give(0, 0, 0, 3, 3).give(0, 0, 1, 2, 1);
    edges.is(READ, "what nothing stands behind is in no reading", dead, x -> x.state(0, 0, 0, 1));
    Past lighter = NEW.leaf(0, 1, 3).word(1, 2).word(1).word(3).word(4).word(5)
        .give(0, 0, 0, 1, 1).give(0, 0, 1, 2, 5).give(0, 0, 1, 3, 1).give(0, 0, 2, 4, 1).give(0, 0, 2, 5, 1);
    edges.is(DOUBTFUL, "behind a weighty word and a light one", lighter, x -> x.state(0, 0, 2, 1));
    edges.is(READ, "the weighty one", lighter, x -> x.state(0, 0, 1, 1));
    Past rising = NEW.leaf(0, 1, 2).word(1).word(2).word(3).give(0, 0, 1, 2, 5).give(0, 0, 1, 3, 5);
    edges.is(DOUBTFUL, "more weight behind than ahead", rising.give(0, 0, 0, 1, 1), x -> x.state(0, 0, 1, 1));
    edges.is(DOUBTFUL, "more weight behind a BLANK cell", rising.blank(0, 0), x -> x.state(0, 0, 1, 1));
    Past falling = NEW.leaf(0, 1, 2).word(1).word(2).word(3).give(0, 0, 0, 2, 5).give(0, 0, 0, 3, 5);
    edges.is(DOUBTFUL, "more weight ahead than behind", falling.give(0, 0, 1, 1, 1), x -> x.state(0, 0, 0, 1));
    edges.is(DOUBTFUL, "more weight ahead of a BLANK cell", falling.blank(0, 1), x -> x.state(0, 0, 0, 1));
    Past words = NEW.leaf(0, 1, 2).word(1, 1).word(1);
    edges.is(RESTORED, "unlike words, the same letter", words, x -> x.state(0, 0, 1, 0));
    edges.is(2, "which are two readings", words, x -> x.readings(0, 0, 0));
    Past eight = NEW.leaf(0, 1, 8).word(0, 0, 0, 0, 0, 0, 0, 0).word(0, 0, 0, 0, 0, 0, 0, 1);
    edges.is(RESTORED, "eight cells, the first", eight, x -> x.state(0, 0, 0, 0));
    edges.is(DOUBTFUL, "eight cells, the last", eight, x -> x.state(0, 0, 7, 0));
    edges.is(SURE, "eight cells, the last given", eight.give(2, 0, 7, 1, 1), x -> x.state(0, 0, 7, 4));
  }

  private void restsRanges() {
    Past past = NEW.leaves(0, 2).leaves(1, 1).fact(AT, 1, 3);
    edges.range(26, "`leaf`: a leaf", past, 0, 2, INDEX, (x, n) -> x.rests(n));
    edges.range(26, "if there is no such leaf", NEW.leaves(0, 5).leaves(1, 5), 0, 9, INDEX, (x, n) -> x.rests(n));
    edges.refuses(INDEX, "no leaf at all", NEW, x -> x.rests(0));
  }

  private void restsOn() {
    edges.of(26, "Returns on which facts a leaf rests that is placed.");
    edges.of(26, "Returns the sum of 2 to the power of each; 0 if it is not placed.");
    Past past = NEW.leaves(0, 2);
    for (int i = 0; i < 12; i++) {
      int fact = i;
      Past on = past.facts(fact, AHEAD, 0, 1).fact(AT, 1, 7).facts(11 - fact, AHEAD, 0, 1);
      edges.is(1 << fact, "on fact " + fact + " alone", on, x -> x.rests(1));
      edges.is(0, "not placed by others than " + fact, on.hold(fact, false), x -> x.rests(1));
    }
    edges.of(26, "A leaf that is placed rests on a fact, if it is not placed without it, or elsewhere.");
    Past row = NEW.leaves(0, 6).fact(AT, 0, 0);
    for (int leaf = 0; leaf < 5; leaf++) row = row.fact(NEXT, leaf, leaf + 1);
    for (int i = 0; i < 6; i++) {
      int leaf = i;
      edges.is((1 << leaf + 1) - 1, "six in a row, leaf " + leaf, row, x -> x.rests(leaf));
    }
    Past elsewhere = NEW.sheets(0, 1).leafOf(0, Undertext.HAIR, 0).leafOf(0, Undertext.FLESH, 0).fact(AHEAD, 1, 0);
    edges.is(1, "at either of two places without it", elsewhere, x -> x.rests(0));
    Past at = NEW.leaves(0, 1).fact(AT, 0, 5);
    edges.is(1, "a LIKELY one beside it does not matter", at.likely(AT, 0, 5), x -> x.rests(0));
    edges.is(1, "a LIKELY one against it does not matter", at.likely(AT, 0, 4), x -> x.rests(0));
    edges.is(1, "nor does one that fell", at.fact(AT, 0, 5).hold(1, false), x -> x.rests(0));
    edges.is(2, "the other of two fell", at.fact(AT, 0, 5).hold(0, false), x -> x.rests(0));
  }

  private void restsNot() {
    edges.of(26, "0 if it is not placed");
    edges.is(0, "no facts", NEW.leaves(0, 1), x -> x.rests(0));
    edges.is(0, "at one of two places", NEW.sheets(0, 1).leaves(0, 1), x -> x.rests(0));
    edges.is(0, "by a LIKELY fact", NEW.leaves(0, 1).likely(AT, 0, 0), x -> x.rests(0));
    edges.is(0, "by one that fell", NEW.leaves(0, 1).fact(AT, 0, 0).hold(0, false), x -> x.rests(0));
    edges.is(0, "no arrangement", NEW.leaves(0, 1).fact(AT, 0, 0).fact(AT, 0, 1), x -> x.rests(0));
    edges.is(0, "the other leaf", NEW.leaves(0, 2).fact(AT, 0, 0), x -> x.rests(1));
    edges.of(26, "if it is not placed without it, or elsewhere");
    edges.is(0, "placed twice: on neither", NEW.leaves(0, 1).fact(AT, 0, 0).fact(AT, 0, 0), x -> x.rests(0));
    Past full = NEW.sheets(0, 1).leaves(0, 2).fact(AT, 0, 0).fact(AT, 1, 1);
    edges.is(0, "placed by either of two: on neither", full, x -> x.rests(0));
    edges.is(0, "placed by either of two: on neither, the other", full, x -> x.rests(1));
    edges.is(1, "when one of them falls, on the other", full.hold(1, false), x -> x.rests(1));
    edges.is(4, "two of three facts do the same", full.fact(AHEAD, 0, 1).hold(0, false).hold(1, false), x -> x.rests(0));
    edges.is(0, "three facts do the same", full.fact(AHEAD, 0, 1), x -> x.rests(0));
  }

  private void worthNone() {
    edges.of(27, "Returns which leaf is worth an image next, NONE without.");
    edges.of(27, "of several the lowest; none, if that is 0");
    edges.is(NONE, "no leaves", NEW, Undertext::worth);
    edges.is(0, "one cell", NEW.leaves(1, 1), Undertext::worth);
    edges.is(NONE, "one cell, unmixed", NEW.leaves(1, 1).image(0, 0, 0, 0, 18), Undertext::worth);
    edges.is(NONE, "one cell, BLANK", NEW.leaves(1, 1).blank(0, 0), Undertext::worth);
    edges.is(NONE, "two leaves, both unmixed", NEW.leaves(0, 1).leaves(1, 1).blank(0, 0).blank(1, 0), Undertext::worth);
    edges.is(1, "two leaves, the first unmixed", NEW.leaves(0, 2).blank(0, 0), Undertext::worth);
    edges.is(9, "ten leaves, the last not unmixed", nineUnmixed(), Undertext::worth);
    edges.is(NONE, "ten leaves, all unmixed", nineUnmixed().blank(9, 0), Undertext::worth);
    edges.is(0, "unmixed no more", NEW.leaves(0, 1).blank(0, 0).image(0, 0, 0, 0, NONE), Undertext::worth);
    edges.is(0, "of ten as much, the lowest", NEW.leaves(0, 5).leaves(1, 5), Undertext::worth);
  }

  private static Past nineUnmixed() {
    Past past = NEW.leaves(0, 5).leaves(1, 5);
    for (int leaf = 0; leaf < 9; leaf++) past = past.blank(leaf, 0);
    return past;
  }

  private void worthCells() {
    edges.of(27, "the leaf, of both books, with the most cells that are not unmixed");
    Past past = NEW.leaf(0, 4, 7).leaf(1, 4, 8);
    edges.is(1, "32 cells", past, Undertext::worth);
    Past four = past;
    for (int line = 0; line < 4; line++) {
      int n = line;
      four = four.then(x -> x.image(1, n, 7, 0, 18));
    }
    edges.is(0, "as many as the other one", four, Undertext::worth);
    Past three = past.image(1, 3, 7, 0, 18).image(1, 2, 0, 0, 18).image(1, 0, 7, 0, 0);
    edges.is(1, "one more than the other one", three, Undertext::worth);
    edges.is(1, "images that do not unmix", past.image(1, 0, 0, 0, 1).image(1, 0, 1, 0, 162), Undertext::worth);
    Past lines = NEW.leaf(0, 1, 8).leaf(1, 4, 1).leaf(0, 2, 4);
    edges.is(0, "one line of eight, two of four", lines, Undertext::worth);
    edges.is(2, "one line of eight, the last unmixed", lines.image(0, 0, 7, 0, 18), Undertext::worth);
  }

  private void worthPlaces() {
    edges.of(27, "times how many places it can have by the CERTAIN facts (1 if there is no arrangement)");
    Past past = NEW.leaf(0, 1, 1).leaf(1, 1, 8);
    edges.is(1, "8 and 64", past, Undertext::worth);
    edges.is(0, "8 and 8", past.fact(AT, 1, 0), Undertext::worth);
    edges.is(1, "8 and 64, by a LIKELY fact", past.likely(AT, 1, 0), Undertext::worth);
    edges.is(1, "8 and 64, by one that fell", past.fact(AT, 1, 0).hold(0, false), Undertext::worth);
    edges.is(0, "8 and 8, no arrangement", past.fact(AT, 1, 0).fact(AT, 1, 1), Undertext::worth);
    edges.is(1, "1 and 8, no arrangement of the first", past.fact(AT, 1, 0).fact(AT, 0, 0).fact(AT, 0, 1), Undertext::worth);
    Past seven = NEW.leaf(0, 1, 1).leaf(1, 1, 7).fact(AT, 1, 0).fact(AT, 1, 1);
    edges.is(0, "8 and 7, no arrangement", seven, Undertext::worth);
    Past nine = NEW.leaf(0, 1, 1).leaf(1, 3, 3).fact(AT, 1, 0).fact(AT, 1, 1);
    edges.is(1, "8 and 9, no arrangement", nine, Undertext::worth);
    edges.is(1, "no arrangement of either", nine.fact(AT, 0, 0).fact(AT, 0, 1), Undertext::worth);
    Past sheets = NEW.leaf(0, 1, 1).leaf(1, 1, 4).sheets(1, 1);
    edges.is(0, "8 and 8, on one sheet", sheets, Undertext::worth);
    edges.is(1, "6 and 8, on three and one", sheets.sheets(0, 3), Undertext::worth);
    edges.is(1, "8 and 16, on two sheets", sheets.sheets(1, 2), Undertext::worth);
  }
}
