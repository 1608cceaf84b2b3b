/** The edges of promises 1 to 6, and of what the document says ahead of them on leaves and images. */
final class LeavesEdges {
  private static final int NONE = Undertext.NONE;
  private static final int HAIR = Undertext.HAIR;
  private static final int FLESH = Undertext.FLESH;
  private static final String INDEX = Edges.INDEX;
  private static final String ARGUMENT = Edges.ARGUMENT;
  private static final String STATE = Edges.STATE;
  private static final Past NEW = Past.NEW;

  private final Edges edges;

  LeavesEdges(Edges edges) {
    this.edges = edges;
  }

  void ask() {
    house();
    newObject();
    nothingShared();
    fewCalls();
    leafRanges();
    leafSizes();
    leavesFull();
    bookFull();
    sheetsFull();
    leafOrder();
    sheetsRanges();
    sheetsTooFew();
    lightRanges();
    lightsAtFirst();
    imageRanges();
    imageReplaced();
    unmixRanges();
    pairs();
    measures();
  }

  /** A leaf under a later book, from its images to its place. */
  private void house() {
    edges.of(1, "A house that brings erased books back");
    Past past = NEW.then(x -> x.leaf(0, 2, 5, HAIR, 0b11)).then(Past.light(1, 2, 3)).image(0, 0, 0, 0, 4);
    edges.is(0, "a cell is unmixed, and BLANK", past, x -> x.image(0, 0, 0, 1, 8));
    Past read = past.image(0, 0, 0, 1, 8).give(0, 0, 1, 7, 5).word(7);
    edges.is(Undertext.SURE, "a letter is read", read, x -> x.state(0, 0, 1, 0b001));
    edges.is(0, "a leaf is placed", read.fact(Undertext.AT, 0, 3), x -> x.edition(0, 3));
  }

  private void newObject() {
    edges.of(1, "No leaves, words, works and facts.");
    edges.is(INDEX, "no leaf 0", NEW, x -> x.dates(0));
    edges.is(0, "the first leaf", NEW, x -> x.leaf(0, 1, 1, NONE, 0));
    edges.is(INDEX, "no fact 0", NEW, x -> x.hold(0, true));
    edges.is(0, "the first fact", NEW.leaf(0, 1, 1), x -> x.fact(Undertext.AT, 0, 0, true));
    edges.is(NONE, "no word to read", NEW.leaf(0, 1, 1), x -> x.weight(0, 0, 7));
    edges.is(0, "the first word", NEW.type(25), Undertext::word);
    edges.is(INDEX, "no work 0", NEW.leaf(0, 1, 1), x -> x.match(0, 0, 0, 0, false));
    edges.is(0, "the first work", NEW.type(25), Undertext::work);
    edges.is(1, "no letter in the draft", NEW, x -> x.type(25));
    edges.is(STATE, "no draft for a word", NEW, Undertext::word);
    edges.is(STATE, "no draft for a work", NEW, Undertext::work);
    edges.is(1, "one arrangement of nothing", NEW, x -> x.arrangements(1, true));
    edges.is(NONE, "nobody's place", NEW, x -> x.edition(0, 7));
    edges.is(NONE, "worth nothing", NEW, Undertext::worth);
    edges.is(4, "sheets", NEW, x -> x.sheets(1, 1));
  }

  private void nothingShared() {
    edges.of(1, "No leaves, words, works and facts.");
    Past full = EdgesTest.full();
    edges.is(NONE, "beside a full one", NEW, x -> {
      full.made();
      return x.worth();
    });
    edges.same("made after a full one", NEW, NEW.thenTried(java.util.List.of(x -> full.made().worth())));
  }

  private void fewCalls() {
    edges.of(1, "An object is used for at most 512 calls after it has been made");
    Past past = NEW.leaf(0, 1, 2).word(3).give(0, 0, 1, 3, 9).fact(Undertext.AT, 0, 7);
    while (past.size() < Past.MOST_CALLS - 1) past = past.hold(0, past.size() % 2 == 0);
    edges.is(9, "the last call", past, x -> x.weight(0, 0, 1));
    edges.is(true, "the last call asks whether the fact held", past, x -> x.hold(0, false));
    Past images = NEW.leaf(0, 4, 8);
    while (images.size() < Past.MOST_CALLS - 1) images = images.image(0, 3, 7, 0, images.size() % 19);
    edges.is(9, "the last call is an image", images, x -> x.image(0, 3, 7, 0, 18));
  }

  private void leafRanges() {
    edges.range(2, "`book`: 0 or 1", NEW, 0, 1, INDEX, (x, n) -> x.leaf(n, 1, 1, NONE, 0));
    edges.range(2, "if there is no such book", NEW, 0, 1, INDEX, (x, n) -> x.leaf(n, 4, 8, FLESH, 255));
    edges.range(2, "`lines`: 1 to 4", NEW, 1, 4, ARGUMENT, (x, n) -> x.leaf(0, n, 1, NONE, 0));
    edges.range(2, "`cells`: 1 to 8: of each line", NEW, 1, 8, ARGUMENT, (x, n) -> x.leaf(0, 1, n, NONE, 0));
    edges.range(2, "`front`: HAIR, FLESH, or NONE", NEW, NONE, FLESH, ARGUMENT, (x, n) -> x.leaf(0, 1, 1, n, 0));
    edges.is(0, "HAIR, between the two", NEW, x -> x.leaf(0, 1, 1, HAIR, 0));
    edges.range(2, "`worms`: 0 to 255: the sum of 2 to the power of each place", NEW, 0, 255, ARGUMENT, (x, n) -> x.leaf(0, 1, 1, NONE, n));
    edges.of(2, "if lines, cells, front or worms is out of range");
    edges.refuses(ARGUMENT, "all four below", NEW, x -> x.leaf(1, 0, 0, -2, -1));
    edges.refuses(ARGUMENT, "all four above", NEW, x -> x.leaf(1, 5, 9, 2, 256));
    edges.of(2, "Tells a leaf.");
    edges.is(8, "with the least of all", NEW.leafOf(0, NONE, 0), x -> x.arrangements(0, true));
    edges.is(8, "with the greatest of all", NEW.then(x -> x.leaf(1, 4, 8, FLESH, 255)), x -> x.arrangements(1, true));
  }

  private void leafSizes() {
    edges.of(2, "has 1 to 4 lines of 1 to 8 cells, all as many");
    for (int lines = 1; lines <= 4; lines++) {
      for (int cells = 1; cells <= 8; cells++) sized(lines, cells);
    }
  }

  private void sized(int lines, int cells) {
    String size = lines + " lines of " + cells;
    Past past = NEW.leaf(0, lines, cells);
    edges.is(9, size + ": the last cell", past, x -> x.image(0, lines - 1, cells - 1, 0, 18));
    edges.is(9, size + ": the last of the first line", past, x -> x.image(0, 0, cells - 1, 0, 18));
    edges.is(INDEX, size + ": a line behind the last", past, x -> x.image(0, lines, 0, 0, 18));
    edges.is(INDEX, size + ": a cell behind the last", past, x -> x.image(0, lines - 1, cells, 0, 18));
    edges.is(INDEX, size + ": a cell behind the last of the first line", past, x -> x.image(0, 0, cells, 0, 18));
  }

  private void leavesFull() {
    edges.of(2, "Leaves are numbered from 0, up to 10.");
    edges.of(2, "Returns its number.");
    for (int i = 0; i < 10; i++) {
      int count = i;
      Past past = NEW.leaves(0, (count + 1) / 2).leaves(1, count / 2);
      edges.is(count, "after " + count + " leaves", past, x -> x.leaf(1, 1, 1, NONE, 0));
    }
    edges.of(2, "if there are 10 leaves");
    Past nine = NEW.leaves(0, 5).leaves(1, 4);
    edges.is(9, "the tenth", nine, x -> x.leaf(1, 1, 1, NONE, 0));
    Past ten = nine.leaves(1, 1);
    edges.refuses(STATE, "an eleventh, where book 0 has room", ten, x -> x.leaf(0, 1, 1, NONE, 0));
    edges.refuses(STATE, "an eleventh, where book 1 has room", ten, x -> x.leaf(1, 4, 8, HAIR, 255));
    Past uneven = NEW.leaves(1, 6).leaves(0, 4);
    edges.refuses(STATE, "an eleventh beside a book of 6", uneven, x -> x.leaf(0, 1, 1, NONE, 0));
    edges.refuses(STATE, "an eleventh in a book of 6", uneven, x -> x.leaf(1, 1, 1, NONE, 0));
  }

  private void bookFull() {
    edges.of(2, "At most 6 leaves are of a book.");
    edges.of(2, "the book has 6");
    for (int i = 0; i < 2; i++) {
      int book = i;
      Past five = NEW.leaves(book, 5);
      edges.is(5, "a sixth of book " + book, five, x -> x.leaf(book, 1, 1, NONE, 0));
      Past six = five.leaves(book, 1);
      edges.refuses(STATE, "a seventh of book " + book, six, x -> x.leaf(book, 1, 1, NONE, 0));
      edges.is(6, "one of the other than " + book, six, x -> x.leaf(1 - book, 1, 1, NONE, 0));
    }
  }

  private void sheetsFull() {
    edges.of(2, "or twice as many as its sheets");
    for (int i = 1; i <= 3; i++) {
      int sheets = i;
      for (int k = 0; k < 2; k++) {
        int book = k;
        Past one = NEW.sheets(book, sheets).leaves(book, 2 * sheets - 1);
        edges.is(2 * sheets - 1, "the last that goes on " + sheets, one, x -> x.leaf(book, 1, 1, NONE, 0));
        Past full = one.leaves(book, 1);
        edges.refuses(STATE, "one too many for " + sheets, full, x -> x.leaf(book, 1, 1, NONE, 0));
        edges.is(2 * sheets, "the other book's sheets are its own", full, x -> x.leaf(1 - book, 1, 1, NONE, 0));
      }
    }
    edges.is(2, "with a sheet more", NEW.sheets(0, 1).leaves(0, 2).sheets(0, 2), x -> x.leaf(0, 1, 1, NONE, 0));
    edges.refuses(STATE, "with a sheet less", NEW.leaves(0, 2).sheets(0, 1), x -> x.leaf(0, 1, 1, NONE, 0));
  }

  private void leafOrder() {
    edges.of(2, "if several exceptions apply, the one that its @throws lines name first is thrown");
    Past full = NEW.leaves(0, 6).leaves(1, 4);
    edges.refuses(INDEX, "no book, no lines, no room", full, x -> x.leaf(2, 0, 1, NONE, 0));
    edges.refuses(INDEX, "no book, no room", full, x -> x.leaf(-1, 1, 1, NONE, 0));
    edges.refuses(INDEX, "no book, no cells", NEW, x -> x.leaf(2, 1, 9, NONE, 0));
    edges.refuses(ARGUMENT, "no lines, no room", full, x -> x.leaf(0, 5, 1, NONE, 0));
    edges.refuses(ARGUMENT, "no cells, no room", full, x -> x.leaf(1, 1, 0, NONE, 0));
    edges.refuses(ARGUMENT, "no front, no room", full, x -> x.leaf(0, 1, 1, 2, 0));
    edges.refuses(ARGUMENT, "no worms, no room", full, x -> x.leaf(0, 1, 1, NONE, 256));
  }

  private void sheetsRanges() {
    edges.range(3, "`book`: 0 or 1", NEW, 0, 1, INDEX, (x, n) -> x.sheets(n, 1));
    edges.range(3, "if there is no such book", NEW.leaves(0, 3), 0, 1, INDEX, (x, n) -> x.sheets(n, 4));
    edges.range(3, "`sheets`: 1 to 4", NEW, 1, 4, ARGUMENT, (x, n) -> x.sheets(0, n));
    edges.range(3, "if sheets is out of range", NEW.leaves(1, 2), 1, 4, ARGUMENT, (x, n) -> x.sheets(1, n));
    edges.of(3, "of 1 to 4 sheets, 4 at first");
    edges.is(8, "places at first", NEW.leaf(0, 1, 1), x -> x.arrangements(0, true));
    edges.is(8, "places of book 1 at first", NEW.leaf(1, 1, 1), x -> x.arrangements(1, true));
    edges.of(3, "Sets how many sheets a book has.");
    edges.of(3, "Returns how many it had.");
    edges.is(4, "at first", NEW, x -> x.sheets(0, 1));
    edges.is(4, "as many again", NEW, x -> x.sheets(1, 4));
    edges.is(1, "the least", NEW.sheets(0, 1), x -> x.sheets(0, 4));
    edges.is(1, "the least again", NEW.sheets(0, 1), x -> x.sheets(0, 1));
    edges.is(4, "of the other book", NEW.sheets(0, 1), x -> x.sheets(1, 2));
    for (int i = 1; i <= 4; i++) {
      int sheets = i;
      Past past = NEW.leaf(0, 1, 1).leaf(1, 1, 1).sheets(0, sheets);
      edges.is(2 * sheets, "twice as many places as " + sheets, past, x -> x.arrangements(0, true));
      edges.is(8, "the places of the other book beside " + sheets, past, x -> x.arrangements(1, true));
    }
  }

  private void sheetsTooFew() {
    edges.of(3, "if it has more leaves than they have");
    for (int i = 0; i <= 6; i++) {
      int leaves = i;
      for (int k = 1; k <= 4; k++) {
        int sheets = k;
        Past past = NEW.leaves(0, leaves);
        String what = leaves + " leaves on " + sheets;
        if (leaves > 2 * sheets) edges.refuses(STATE, what, past, x -> x.sheets(0, sheets));
        else edges.is(4, what, past, x -> x.sheets(0, sheets));
        edges.is(4, what + " of the other book", past, x -> x.sheets(1, sheets));
      }
    }
    edges.of(3, "if several exceptions apply, the one that its @throws lines name first is thrown");
    edges.refuses(INDEX, "no book, no sheets", NEW, x -> x.sheets(2, 0));
    edges.refuses(ARGUMENT, "no sheets, and too few", NEW.leaves(0, 6), x -> x.sheets(0, 0));
    edges.refuses(INDEX, "no book, no sheets, and too few", NEW.leaves(0, 6).leaves(1, 3), x -> x.sheets(-1, 0));
  }

  private void lightRanges() {
    Past past = NEW.leaf(0, 1, 1).image(0, 0, 0, 0, 7).image(0, 0, 0, 1, 9).image(0, 0, 0, 2, 11);
    edges.range(4, "`light`: 0 to 2", past, 0, 2, INDEX, (x, n) -> Past.light(n, 1, 2).on(x));
    edges.range(4, "if there is no such light", NEW, 0, 2, INDEX, (x, n) -> Past.light(n, 9, 9).on(x));
    edges.range(4, "`over`: 0 to 9", past, 0, 9, ARGUMENT, (x, n) -> Past.light(0, n, 1).on(x));
    edges.range(4, "`under`: 0 to 9", past, 0, 9, ARGUMENT, (x, n) -> Past.light(2, 1, n).on(x));
    edges.of(4, "if over or under is out of range");
    edges.refuses(ARGUMENT, "both above", past, Past.light(1, 10, 10));
    edges.refuses(ARGUMENT, "both below", past, Past.light(1, -1, -1));
    edges.of(4, "if several exceptions apply, the one that its @throws lines name first is thrown");
    edges.refuses(INDEX, "no light, over above", past, Past.light(3, 10, 1));
    edges.refuses(INDEX, "no light, under below", past, Past.light(-1, 1, -1));
  }

  private void lightsAtFirst() {
    edges.of(4, "There are the lights 0 to 2.");
    edges.of(4, "both 0 to 9, 1 at first");
    for (int i = 0; i < 3; i++) {
      int light = i;
      Past past = NEW.leaf(0, 1, 1).image(0, 0, 0, light, 18);
      edges.is(9, "light " + light + " at first: the undertext", past, x -> x.unmix(0, 0, 0, true));
      edges.is(9, "light " + light + " at first: the overtext", past, x -> x.unmix(0, 0, 0, false));
      Past most = past.then(Past.light(light, 9, 9));
      edges.is(NONE, "light " + light + " at its most: 18 is 0 and 2, and 1 and 1", most, x -> x.unmix(0, 0, 0, true));
      edges.is(9, "light " + light + " at its most: 162", most, x -> x.image(0, 0, 0, light, 162));
      Past least = past.then(Past.light(light, 0, 0));
      edges.is(NONE, "light " + light + " at its least: nothing gives 18", least, x -> x.unmix(0, 0, 0, true));
      edges.is(NONE, "light " + light + " at its least: all give 0", least, x -> x.image(0, 0, 0, light, 0));
    }
    edges.of(4, "Sets what a light takes; images stay as they are.");
    Past set = NEW.leaf(0, 1, 1).image(0, 0, 0, 0, 18).then(Past.light(0, 0, 0));
    edges.is(NONE, "away", set, x -> x.unmix(0, 0, 0, true));
    edges.is(9, "and back", set.then(Past.light(0, 1, 1)), x -> x.unmix(0, 0, 0, true));
    Past last = NEW.leaves(0, 5).leaves(1, 4).leaf(1, 4, 8).image(9, 3, 7, 2, 18);
    edges.is(NONE, "the last cell of the last leaf", last.then(Past.light(2, 1, 2)), x -> x.unmix(9, 3, 7, true));
    edges.is(9, "the last cell, and another light", last.then(Past.light(1, 1, 2)), x -> x.unmix(9, 3, 7, true));
    edges.is(INDEX, "no answer, and no leaf either", NEW.then(Past.light(0, 9, 9)), x -> x.unmix(0, 0, 0, true));
  }

  private void imageRanges() {
    Past past = NEW.leaf(0, 2, 3).image(0, 1, 2, 0, 18).leaf(1, 2, 3);
    edges.range(5, "`leaf`: its number", past, 0, 1, INDEX, (x, n) -> x.image(n, 1, 2, 0, 18));
    edges.range(5, "`line`: from 0", past, 0, 1, INDEX, (x, n) -> x.image(0, n, 2, 0, 17));
    edges.range(5, "`cell`: from 0", past, 0, 2, INDEX, (x, n) -> x.image(0, 1, n, 0, 17));
    edges.range(5, "`light`: 0 to 2", past, 0, 2, INDEX, (x, n) -> x.image(0, 1, 2, n, 17));
    edges.range(5, "`value`: 0 to 162, or NONE: it is taken away", past, NONE, 162, ARGUMENT, (x, n) -> x.image(0, 1, 2, 0, n));
    edges.of(5, "if there is no such leaf, line, cell or light");
    edges.refuses(INDEX, "no leaf at all", NEW, x -> x.image(0, 0, 0, 0, 0));
    edges.refuses(INDEX, "the tenth leaf", past, x -> x.image(9, 0, 0, 0, 0));
    edges.refuses(INDEX, "a cell of the next line", past, x -> x.image(0, 0, 3, 0, 0));
    edges.refuses(INDEX, "a line that another leaf has", past.leaf(0, 4, 8), x -> x.image(0, 2, 0, 0, 0));
    edges.refuses(INDEX, "a cell that another leaf has", past.leaf(0, 4, 8), x -> x.image(0, 1, 3, 0, 0));
    edges.of(5, "if value is out of range");
    edges.refuses(ARGUMENT, "where there is no image", past, x -> x.image(0, 0, 0, 0, 163));
    edges.refuses(ARGUMENT, "as a second image", past, x -> x.image(0, 1, 2, 1, -2));
    edges.of(5, "if several exceptions apply, the one that its @throws lines name first is thrown");
    edges.refuses(INDEX, "no leaf, no value", past, x -> x.image(2, 0, 0, 0, 163));
    edges.refuses(INDEX, "no line, no value", past, x -> x.image(0, 2, 0, 0, 163));
    edges.refuses(INDEX, "no cell, no value", past, x -> x.image(0, 0, 3, 0, -2));
    edges.refuses(INDEX, "no light, no value", past, x -> x.image(0, 0, 0, 3, 163));
    edges.of(5, "An image is a value of a cell under a light, 0 to 162: what is taken there.");
    Past most = NEW.leaf(0, 1, 1).then(Past.light(0, 9, 9));
    edges.is(9, "162 is the most that is taken", most, x -> x.image(0, 0, 0, 0, 162));
    edges.is(NONE, "161 is never taken", most, x -> x.image(0, 0, 0, 0, 161));
    edges.is(0, "0 is the least", most, x -> x.image(0, 0, 0, 0, 0));
  }

  private void imageReplaced() {
    edges.of(5, "Tells an image, in place of one of the same cell and light.");
    Past past = NEW.leaf(0, 1, 1).image(0, 0, 0, 1, 18);
    edges.is(0, "another value", past, x -> x.image(0, 0, 0, 1, 0));
    edges.is(NONE, "against that of another light", past, x -> x.image(0, 0, 0, 2, 0));
    edges.is(9, "as that of another light", past, x -> x.image(0, 0, 0, 0, 18));
    edges.of(5, "or NONE: it is taken away");
    edges.is(NONE, "the only one", past, x -> x.image(0, 0, 0, 1, NONE));
    edges.is(9, "one that was not there", past, x -> x.image(0, 0, 0, 0, NONE));
    edges.is(NONE, "the only one, the overtext then", past.image(0, 0, 0, 1, NONE), x -> x.unmix(0, 0, 0, false));
    edges.is(NONE, "the only one, the undertext then", past.image(0, 0, 0, 1, NONE), x -> x.unmix(0, 0, 0, true));
    edges.is(NONE, "none was there at all", NEW.leaf(0, 1, 1), x -> x.image(0, 0, 0, 2, NONE));
    edges.is(9, "one of two", past.image(0, 0, 0, 2, 3), x -> x.image(0, 0, 0, 2, NONE));
    edges.of(5, "Returns the measure of ink of the undertext, if the cell is unmixed then; NONE if it is not.");
    Past under = NEW.leaf(0, 1, 1).then(Past.light(0, 1, 0)).then(Past.light(1, 0, 1));
    edges.is(NONE, "the overtext alone is known", under, x -> x.image(0, 0, 0, 0, 5));
    edges.is(7, "not the overtext's", under.image(0, 0, 0, 0, 5), x -> x.image(0, 0, 0, 1, 7));
    edges.is(0, "no ink of the undertext is a measure", under.image(0, 0, 0, 0, 5), x -> x.image(0, 0, 0, 1, 0));
  }

  private void unmixRanges() {
    Past past = NEW.leaf(0, 2, 3).image(0, 1, 2, 0, 18).leaf(1, 2, 3);
    edges.range(6, "`leaf`: its number", past, 0, 1, INDEX, (x, n) -> x.unmix(n, 0, 0, true));
    edges.range(6, "`line`: from 0", past, 0, 1, INDEX, (x, n) -> x.unmix(0, n, 0, true));
    edges.range(6, "`cell`: from 0", past, 0, 2, INDEX, (x, n) -> x.unmix(1, 0, n, false));
    edges.of(6, "if there is no such leaf, line or cell");
    edges.refuses(INDEX, "no leaf at all", NEW, x -> x.unmix(0, 0, 0, false));
    edges.refuses(INDEX, "none of three", past, x -> x.unmix(2, 2, 3, true));
    edges.refuses(INDEX, "a cell of the next line", past, x -> x.unmix(0, 0, 3, true));
    edges.of(6, "`under`: whether the undertext is asked, otherwise the overtext");
    Past apart = NEW.leaf(0, 1, 1).then(Past.light(0, 9, 0)).then(Past.light(1, 0, 9));
    Past both = apart.image(0, 0, 0, 0, 81).image(0, 0, 0, 1, 0);
    edges.is(9, "the overtext", both, x -> x.unmix(0, 0, 0, false));
    edges.is(0, "the undertext", both, x -> x.unmix(0, 0, 0, true));
    edges.of(6, "Unmixes a cell.");
    edges.of(6, "Returns its measure; NONE if it is not unmixed.");
    edges.is(NONE, "no image: the overtext", past, x -> x.unmix(0, 0, 0, false));
    edges.is(NONE, "no image: the undertext", past, x -> x.unmix(0, 0, 0, true));
    edges.is(NONE, "the overtext is known, but not the undertext", apart.image(0, 0, 0, 0, 9), x -> x.unmix(0, 0, 0, false));
    edges.is(NONE, "the undertext is known, but not the overtext", apart.image(0, 0, 0, 1, 9), x -> x.unmix(0, 0, 0, true));
  }

  private void pairs() {
    edges.of(6, "found, if there are just one such pair");
    Past past = NEW.leaf(0, 1, 1);
    int[] values = {0, 1, 17, 18, 19};
    int[] measures = {0, NONE, NONE, 9, NONE};
    for (int i = 0; i < values.length; i++) {
      Past imaged = past.image(0, 0, 0, 2, values[i]);
      edges.is(measures[i], "both take 1, of " + values[i], imaged, x -> x.unmix(0, 0, 0, true));
      edges.is(measures[i], "both take 1, the overtext of " + values[i], imaged, x -> x.unmix(0, 0, 0, false));
    }
    Past two = past.then(Past.light(0, 9, 8));
    edges.is(NONE, "8 and 0, and 0 and 9: two pairs of 72", two.image(0, 0, 0, 0, 72), x -> x.unmix(0, 0, 0, true));
    edges.is(8, "0 and 8: one pair of 64", two.image(0, 0, 0, 0, 64), x -> x.unmix(0, 0, 0, true));
    edges.is(NONE, "no pair of 7", two.image(0, 0, 0, 0, 7), x -> x.unmix(0, 0, 0, true));
    edges.of(6, "so that all its images come of them");
    Past three = NEW.leaf(0, 1, 1).then(Past.light(0, 9, 9), Past.light(1, 8, 9), Past.light(2, 9, 8))
        .image(0, 0, 0, 0, 162).image(0, 0, 0, 1, 153);
    edges.is(9, "three that agree", three, x -> x.image(0, 0, 0, 2, 153));
    edges.is(NONE, "the third by one more", three, x -> x.image(0, 0, 0, 2, 154));
    edges.is(NONE, "the third by one less", three, x -> x.image(0, 0, 0, 2, 152));
    edges.of(6, "all its images come of them: found, if there are just one such pair");
    edges.is(NONE, "a cell without images: all pairs", past, x -> x.unmix(0, 0, 0, false));
  }

  private void measures() {
    edges.of(6, "find measures of both inks, 0 to 9 each");
    Past past = NEW.leaf(0, 1, 1).then(Past.light(0, 1, 0)).then(Past.light(1, 0, 1));
    for (int i = 0; i <= 10; i++) {
      int measure = i;
      Past over = past.image(0, 0, 0, 0, measure).image(0, 0, 0, 1, 0);
      Past under = past.image(0, 0, 0, 1, measure).image(0, 0, 0, 0, 0);
      edges.is(measure > 9 ? NONE : measure, "overtext " + measure, over, x -> x.unmix(0, 0, 0, false));
      edges.is(measure > 9 ? NONE : 0, "no undertext beside overtext " + measure, over, x -> x.unmix(0, 0, 0, true));
      edges.is(measure > 9 ? NONE : measure, "undertext " + measure, under, x -> x.unmix(0, 0, 0, true));
      edges.is(measure > 9 ? NONE : 0, "no overtext beside undertext " + measure, under, x -> x.unmix(0, 0, 0, false));
    }
    edges.of(6, "A light takes from each cell, for each measure of ink of the overtext, some units");
    Past uneven = NEW.leaf(0, 1, 1).then(Past.light(0, 9, 1));
    edges.is(8, "9 of over-, 1 of undertext: 89 is 9 and 8", uneven.image(0, 0, 0, 0, 89), x -> x.unmix(0, 0, 0, true));
    edges.is(9, "its overtext", uneven.image(0, 0, 0, 0, 89), x -> x.unmix(0, 0, 0, false));
  }
}
