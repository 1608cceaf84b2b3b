/** The edges of promises 7 to 13, and of what the document says ahead of them on readings. */
final class ReadingsEdges {
  private static final int NONE = Undertext.NONE;
  private static final String INDEX = Edges.INDEX;
  private static final String ARGUMENT = Edges.ARGUMENT;
  private static final String STATE = Edges.STATE;
  private static final String ORDER = "if several exceptions apply, the one that its @throws lines name first is thrown";
  private static final Past NEW = Past.NEW;

  private final Edges edges;

  ReadingsEdges(Edges edges) {
    this.edges = edges;
  }

  void ask() {
    giveRanges();
    giveCounts();
    giveWeights();
    giveBlank();
    giveFull();
    giveOrder();
    typeRanges();
    wordLengths();
    wordsFull();
    wordSame();
    workLengths();
    worksFull();
    readingRanges();
    lines();
    unread();
    given();
    layers();
    blankLines();
    blankCells();
    wordLines();
    manyReadings();
    firstReading();
  }

  private void giveRanges() {
    Past past = NEW.leaf(0, 1, 1).then(x -> x.leaf(1, 2, 3, NONE, 0)).word(5).give(1, 1, 2, 5, 4);
    edges.range(7, "`scholar`: 0 to 2", past, 0, 2, INDEX, (x, n) -> x.give(n, 1, 0, 0, 5, 1));
    edges.range(7, "`leaf`: a leaf", past, 0, 1, INDEX, (x, n) -> x.give(0, n, 0, 0, 5, 1));
    edges.range(7, "`line`: from 0", past, 0, 1, INDEX, (x, n) -> x.give(0, 1, n, 0, 5, 1));
    edges.range(7, "`cell`: from 0", past, 0, 2, INDEX, (x, n) -> x.give(0, 1, 1, n, 5, 1));
    edges.range(7, "`letter`: 0 to 25", past, 0, 25, ARGUMENT, (x, n) -> x.give(0, 1, 0, 0, n, 1));
    edges.range(7, "`weight`: 1 to 9, or 0: they take it back", past, 0, 9, ARGUMENT, (x, n) -> x.give(1, 1, 0, 2, 5, n));
    edges.of(7, "if there is no such scholar, leaf, line or cell");
    edges.refuses(INDEX, "none of the four", past, x -> x.give(3, 2, 2, 3, 5, 1));
    edges.refuses(INDEX, "a line that another leaf has", past, x -> x.give(0, 0, 1, 0, 5, 1));
    edges.refuses(INDEX, "a cell that another leaf has", past, x -> x.give(0, 0, 0, 1, 5, 1));
    edges.refuses(INDEX, "a letter taken back from no cell", past, x -> x.give(1, 1, 0, 3, 5, 0));
    edges.of(7, "if letter or weight is out of range");
    edges.refuses(ARGUMENT, "both above", past, x -> x.give(1, 1, 0, 2, 26, 10));
    edges.refuses(ARGUMENT, "a letter taken back that is none", past, x -> x.give(1, 1, 0, 2, 26, 0));
    edges.refuses(ARGUMENT, "a weight of a letter that they give", past, x -> x.give(1, 1, 0, 2, 5, -1));
    edges.of(7, "Letters are 0 to 25.");
    for (int i = 0; i < 26; i++) {
      int letter = i;
      Past one = NEW.leaf(0, 1, 1).word(letter).give(0, 0, 0, letter, 3);
      edges.is(letter, "letter " + letter + " is read", one, x -> x.letter(0, 0, 0, 1));
      edges.is(3, "letter " + letter + " has its weight", one, x -> x.weight(0, 0, 1));
    }
    edges.of(7, "There are the scholars 0 to 2");
    for (int i = 0; i < 3; i++) {
      int scholar = i;
      Past one = NEW.leaf(0, 1, 1).word(7).give(scholar, 0, 0, 7, 9);
      for (int k = 0; k < 8; k++) {
        int layer = k;
        edges.is((layer >> scholar & 1) * 9, "scholar " + scholar + " in layer " + layer, one, x -> x.weight(0, 0, layer));
      }
    }
  }

  private void giveCounts() {
    edges.of(7, "Lets a scholar give a cell a letter.");
    edges.of(7, "Returns how many letters they give the cell then.");
    Past past = NEW.leaf(0, 1, 2);
    edges.is(0, "one taken back that was not given", past, x -> x.give(0, 0, 0, 0, 5, 0));
    edges.is(1, "the first", past, x -> x.give(0, 0, 0, 0, 5, 1));
    edges.is(2, "the second", past.give(0, 0, 0, 5, 1), x -> x.give(0, 0, 0, 0, 6, 1));
    edges.is(3, "the third", past.give(0, 0, 0, 5, 1).give(0, 0, 0, 6, 1), x -> x.give(0, 0, 0, 0, 7, 1));
    edges.is(0, "the only one taken back", past.give(0, 0, 0, 5, 1), x -> x.give(0, 0, 0, 0, 5, 0));
    edges.is(1, "another one taken back, that was not given", past.give(0, 0, 0, 5, 1), x -> x.give(0, 0, 0, 0, 6, 0));
    edges.is(1, "another scholar's do not count", past.give(0, 0, 0, 5, 1), x -> x.give(1, 0, 0, 0, 5, 1));
    edges.is(1, "another cell's do not count", past.give(0, 0, 0, 5, 1), x -> x.give(0, 0, 0, 1, 5, 1));
  }

  private void giveWeights() {
    edges.of(7, "each with a weight, 1 to 9; one that is given again has the new weight");
    Past past = NEW.leaf(0, 1, 1).word(5);
    for (int i = 1; i <= 9; i++) {
      int weight = i;
      edges.is(weight, "weight " + weight, past.give(0, 0, 0, 5, weight), x -> x.weight(0, 0, 1));
      Past again = past.give(0, 0, 0, 5, 9).give(0, 0, 0, 5, weight);
      edges.is(weight, "given again with " + weight, again, x -> x.weight(0, 0, 1));
      edges.is(1, "given again, still one letter", again, x -> x.give(0, 0, 0, 0, 5, 9));
    }
    Past back = past.give(0, 0, 0, 5, 9).give(0, 0, 0, 5, 0);
    edges.is(0, "taken back", back, x -> x.weight(0, 0, 1));
    edges.is(Undertext.RESTORED, "taken back, given by none", back, x -> x.state(0, 0, 0, 1));
    edges.is(4, "and given again", back.give(0, 0, 0, 5, 4), x -> x.weight(0, 0, 1));
  }

  private void giveBlank() {
    edges.of(7, "if the cell is BLANK");
    Past given = NEW.leaf(0, 1, 2).word(5).give(0, 0, 0, 5, 4);
    Past blank = given.blank(0, 0);
    edges.refuses(STATE, "another weight", blank, x -> x.give(0, 0, 0, 0, 5, 9));
    edges.refuses(STATE, "one that they give taken back", blank, x -> x.give(0, 0, 0, 0, 5, 0));
    edges.refuses(STATE, "a new one", blank, x -> x.give(0, 0, 0, 0, 6, 1));
    edges.refuses(STATE, "another scholar's", blank, x -> x.give(2, 0, 0, 0, 5, 1));
    edges.refuses(STATE, "nothing to take back", blank, x -> x.give(2, 0, 0, 0, 5, 0));
    edges.is(1, "the cell beside it", blank, x -> x.give(0, 0, 0, 1, 5, 1));
    edges.of(7, "A cell that is unmixed, with no ink of the undertext, is BLANK");
    edges.is(1, "no image", given, x -> x.give(0, 0, 0, 0, 5, 9));
    edges.is(1, "not unmixed", given.image(0, 0, 0, 0, 1), x -> x.give(0, 0, 0, 0, 5, 9));
    edges.is(1, "unmixed, the most ink", given.image(0, 0, 0, 0, 18), x -> x.give(0, 0, 0, 0, 5, 9));
    Past lit = given.then(Past.light(1, 0, 1)).then(Past.light(2, 1, 0));
    edges.is(1, "unmixed, the least ink", lit.image(0, 0, 0, 1, 1).image(0, 0, 0, 2, 3), x -> x.give(0, 0, 0, 0, 5, 9));
    edges.is(1, "no undertext, but not unmixed", lit.image(0, 0, 0, 1, 0), x -> x.give(0, 0, 0, 0, 5, 9));
    edges.is(STATE, "no undertext, and unmixed", lit.image(0, 0, 0, 1, 0).image(0, 0, 0, 2, 3), x -> x.give(0, 0, 0, 0, 5, 9));
    edges.is(STATE, "neither ink", lit.image(0, 0, 0, 1, 0).image(0, 0, 0, 2, 0), x -> x.give(0, 0, 0, 0, 5, 9));
    edges.of(7, "letters cannot be given to it, and those that it has do not count");
    Past line = NEW.leaf(0, 1, 1).word(5).give(0, 0, 0, 5, 4).blank(0, 0);
    edges.is(0, "they weigh nothing", line, x -> x.weight(0, 0, 1));
    edges.is(NONE, "none is read", line, x -> x.letter(0, 0, 0, 1));
    edges.is(Undertext.BLANK, "the cell is BLANK all the same", line, x -> x.state(0, 0, 0, 1));
    Past anew = line.image(0, 0, 0, 0, NONE);
    edges.is(4, "they count when it is BLANK no more", anew, x -> x.weight(0, 0, 1));
    edges.is(1, "and can be given", anew, x -> x.give(0, 0, 0, 0, 5, 3));
  }

  private void giveFull() {
    edges.of(7, "a scholar can give a cell letters, up to 3");
    edges.of(7, "or has 3 other ones of theirs, whatever the weight");
    Past three = NEW.leaf(0, 1, 2).word(0).word(9).word(25).give(1, 0, 0, 0, 1).give(1, 0, 0, 9, 5).give(1, 0, 0, 25, 9);
    for (int i = 0; i <= 9; i++) {
      int weight = i;
      edges.refuses(STATE, "a fourth with weight " + weight, three, x -> x.give(1, 0, 0, 0, 24, weight));
    }
    for (int letter : new int[] {0, 9, 25}) {
      edges.is(3, "one of the three anew, " + letter, three, x -> x.give(1, 0, 0, 0, letter, 2));
      edges.is(2, "one of the three taken back, " + letter, three, x -> x.give(1, 0, 0, 0, letter, 0));
      Past two = three.give(1, 0, 0, letter, 0);
      edges.is(3, "a fourth in place of " + letter, two, x -> x.give(1, 0, 0, 0, 24, 1));
      edges.is(2, "taken back of two, " + letter, two, x -> x.give(1, 0, 0, 0, letter, 0));
      edges.is(letter, "each of three can be read, " + letter, three.give(0, 0, 0, letter, 9), x -> x.letter(0, 0, 0, 3));
    }
    edges.is(1, "another scholar's fourth", three, x -> x.give(0, 0, 0, 0, 24, 1));
    edges.is(1, "a fourth for another cell", three, x -> x.give(1, 0, 0, 1, 24, 1));
    Past all = three;
    for (int letter = 1; letter <= 3; letter++) all = all.give(0, 0, 0, letter, 1).give(2, 0, 0, letter + 3, 1);
    edges.refuses(STATE, "a tenth letter of three scholars", all, x -> x.give(2, 0, 0, 0, 25, 0));
    edges.is(3, "three scholars give three each", all, x -> x.give(2, 0, 0, 0, 6, 9));
  }

  private void giveOrder() {
    edges.of(7, ORDER);
    Past three = NEW.leaf(0, 1, 1).give(1, 0, 0, 0, 1).give(1, 0, 0, 9, 5).give(1, 0, 0, 25, 9);
    Past blank = three.blank(0, 0);
    edges.refuses(INDEX, "no scholar, no letter", three, x -> x.give(3, 0, 0, 0, 26, 1));
    edges.refuses(INDEX, "no scholar, a BLANK cell", blank, x -> x.give(3, 0, 0, 0, 1, 1));
    edges.refuses(INDEX, "no leaf, no weight", three, x -> x.give(1, 1, 0, 0, 1, 10));
    edges.refuses(INDEX, "no line, no letter", three, x -> x.give(1, 0, 1, 0, -1, 1));
    edges.refuses(INDEX, "no cell, no weight", three, x -> x.give(1, 0, 0, 1, 1, -1));
    edges.refuses(ARGUMENT, "no letter, a BLANK cell", blank, x -> x.give(1, 0, 0, 0, 26, 1));
    edges.refuses(ARGUMENT, "no weight, a BLANK cell", blank, x -> x.give(1, 0, 0, 0, 9, 10));
    edges.refuses(ARGUMENT, "no letter, and three others", three, x -> x.give(1, 0, 0, 0, 26, 0));
    edges.refuses(ARGUMENT, "no weight, and three others", three, x -> x.give(1, 0, 0, 0, 24, 10));
    edges.refuses(STATE, "three others, and a BLANK cell", blank, x -> x.give(1, 0, 0, 0, 24, 0));
  }

  private void typeRanges() {
    edges.range(8, "`letter`: 0 to 25", NEW, 0, 25, ARGUMENT, (x, n) -> x.type(n));
    edges.range(8, "if letter is out of range", NEW.draft(39), 0, 25, ARGUMENT, (x, n) -> x.type(n));
    edges.of(8, "Puts a letter at the end of the draft.");
    edges.of(8, "Returns how many it has then.");
    edges.of(8, "if it has 40");
    for (int i = 0; i < 40; i++) edges.is(i + 1, "after " + i, NEW.draft(i), x -> x.type(25));
    edges.refuses(STATE, "one more than 40", NEW.draft(40), x -> x.type(0));
    edges.refuses(STATE, "one more than 40, in a lexicon", NEW.words(12).works(3).draft(40), x -> x.type(25));
    edges.is(1, "the first after a word", NEW.word(1, 2), x -> x.type(0));
    edges.is(1, "the first after a work", NEW.work(1, 2), x -> x.type(0));
    edges.of(8, ORDER);
    edges.refuses(ARGUMENT, "no letter, no room", NEW.draft(40), x -> x.type(26));
    edges.refuses(ARGUMENT, "no letter, no room", NEW.draft(40), x -> x.type(-1));
  }

  private void wordLengths() {
    edges.of(9, "The lexicon has words, numbered from 0, up to 12, each of 1 to 8 letters.");
    edges.of(9, "Puts the draft into the lexicon; it is empty then.");
    edges.of(9, "if the draft is empty, or longer than 8");
    edges.refuses(STATE, "an empty draft", NEW.leaf(0, 1, 1), Undertext::word);
    edges.refuses(STATE, "an empty draft after a word", NEW.leaf(0, 1, 1).word(0), Undertext::word);
    edges.refuses(STATE, "an empty draft after a work", NEW.leaf(0, 1, 1).work(0), Undertext::word);
    for (int i = 1; i <= 40; i++) {
      int length = i;
      Past draft = NEW.leaf(0, 1, 8).draft(length);
      if (length > 8) {
        edges.refuses(STATE, "a draft of " + length, draft, Undertext::word);
        continue;
      }
      edges.is(0, "a draft of " + length, draft, Undertext::word);
      Past word = draft.then(Undertext::word);
      edges.is(1, "the draft is empty after " + length, word, x -> x.type(25));
      edges.is(STATE, "no other word without a draft after " + length, word, Undertext::word);
      edges.is(0, "the same again, of " + length, word.draft(length), Undertext::word);
      edges.is(8 % length == 0 ? 0 : NONE, "words of " + length + " in 8 cells", word, x -> x.weight(0, 0, 0));
    }
    edges.of(9, "it is empty then");
    edges.is(1, "also when the word was there", NEW.word(3).word(3), x -> x.type(25));
  }

  private void wordsFull() {
    edges.of(9, "or there are 12 words, of which none is the same");
    for (int i = 0; i < 12; i++) edges.is(i, "after " + i, NEW.words(i).type(25), Undertext::word);
    Past full = NEW.leaf(0, 1, 2).words(12);
    edges.refuses(STATE, "a thirteenth", full.type(12), Undertext::word);
    edges.refuses(STATE, "a thirteenth, of which one is the beginning", full.type(0, 1), Undertext::word);
    edges.refuses(STATE, "a thirteenth, empty", full, Undertext::word);
    edges.refuses(STATE, "a thirteenth, too long", full.draft(9), Undertext::word);
    for (int i = 0; i < 12; i++) edges.is(i, "one that is there", full.type(i), Undertext::word);
    edges.is(1, "the draft is empty after one that is there", full.word(11), x -> x.type(0));
    edges.is(12, "none came in after one that is there", full.word(11), x -> x.readings(0, 0, 0) / 12);
    Past kept = full.type(12).thenTried(java.util.List.of(Undertext::word));
    edges.is(2, "the draft is kept", kept, x -> x.type(12));
    edges.is(0, "the draft can be a work", kept, Undertext::work);
  }

  private void wordSame() {
    edges.of(9, "Returns the number of the word, that of one that is the same, if there is one.");
    Past past = NEW.word(1, 2).word(2, 1).word(1).word(1, 2, 3).word(1, 2, 3, 4, 5, 6, 7, 8);
    edges.is(0, "the first", past.type(1, 2), Undertext::word);
    edges.is(1, "the letters the other way", past.type(2, 1), Undertext::word);
    edges.is(2, "its beginning", past.type(1), Undertext::word);
    edges.is(3, "one that it begins", past.type(1, 2, 3), Undertext::word);
    edges.is(4, "the longest", past.type(1, 2, 3, 4, 5, 6, 7, 8), Undertext::word);
    edges.is(5, "another end", past.type(1, 2, 3, 4, 5, 6, 7, 9), Undertext::word);
    edges.is(5, "another start", past.type(0, 2), Undertext::word);
    edges.is(5, "a letter less", past.type(1, 2, 3, 4, 5, 6, 7), Undertext::word);
    edges.is(STATE, "a letter more", past.type(1, 2, 3, 4, 5, 6, 7, 8, 9), Undertext::word);
  }

  private void workLengths() {
    edges.of(10, "Works are numbered from 0, up to 4, each of 1 to 40 letters.");
    edges.of(10, "Makes a work of the draft; it is empty then.");
    edges.of(10, "if the draft is empty");
    edges.refuses(STATE, "an empty draft", NEW.leaf(0, 1, 1).words(2), Undertext::work);
    edges.refuses(STATE, "an empty draft after a word", NEW.leaf(0, 1, 1).word(0), Undertext::work);
    edges.refuses(STATE, "an empty draft after a work", NEW.leaf(0, 1, 1).word(0).work(1), Undertext::work);
    for (int i = 1; i <= 40; i++) {
      int length = i;
      Past draft = NEW.leaf(0, 1, 1).word(1).draft(length - 1).type(1);
      edges.is(0, "a draft of " + length, draft, Undertext::work);
      Past work = draft.then(Undertext::work);
      edges.is(1, "the draft is empty after " + length, work, x -> x.type(25));
      edges.is(STATE, "no other work without a draft after " + length, work, Undertext::work);
      edges.is(0, "its last letter, " + length, work, x -> x.match(0, 0, 0, 0, false));
      edges.is(length, "where its last letter stands", work, x -> x.match(0, 0, 0, 0, true));
    }
  }

  private void worksFull() {
    edges.of(10, "or there are 4 works");
    edges.of(10, "Returns the number of the work.");
    for (int i = 0; i < 4; i++) {
      edges.is(i, "after " + i, NEW.works(i).type(25), Undertext::work);
      edges.is(i, "after " + i + " that are the same", NEW.works(i).type(0), Undertext::work);
    }
    Past full = NEW.leaf(0, 1, 1).word(1).works(4);
    edges.refuses(STATE, "a fifth", full.type(7), Undertext::work);
    edges.refuses(STATE, "a fifth that is the same as one", full.type(0), Undertext::work);
    edges.refuses(STATE, "a fifth, empty", full, Undertext::work);
    edges.refuses(STATE, "a fifth of 40", full.draft(40), Undertext::work);
    Past kept = full.type(7).thenTried(java.util.List.of(Undertext::work));
    edges.is(2, "the draft is kept", kept, x -> x.type(7));
    edges.is(1, "the draft can be a word", kept, Undertext::word);
  }

  private void readingRanges() {
    Past past = NEW.leaf(0, 1, 1).then(x -> x.leaf(1, 2, 3, NONE, 0)).word(5).give(1, 1, 2, 5, 4);
    edges.range(11, "`leaf`: a leaf", past, 0, 1, INDEX, (x, n) -> x.weight(n, 0, 2));
    edges.range(11, "`line`: from 0", past, 0, 1, INDEX, (x, n) -> x.weight(1, n, 2));
    edges.range(11, "`layer`: 0 to 7: the sum of 2 to the power of each scholar", past, 0, 7, ARGUMENT, (x, n) -> x.weight(1, 0, n));
    edges.range(12, "`leaf`: a leaf", past, 0, 1, INDEX, (x, n) -> x.readings(n, 0, 2));
    edges.range(12, "`line`: from 0", past, 0, 1, INDEX, (x, n) -> x.readings(1, n, 2));
    edges.range(12, "`layer`: 0 to 7", past, 0, 7, ARGUMENT, (x, n) -> x.readings(1, 0, n));
    edges.range(13, "`leaf`: a leaf", past, 0, 1, INDEX, (x, n) -> x.letter(n, 0, 0, 2));
    edges.range(13, "`line`: from 0", past, 0, 1, INDEX, (x, n) -> x.letter(1, n, 0, 2));
    edges.range(13, "`cell`: from 0", past, 0, 2, INDEX, (x, n) -> x.letter(1, 1, n, 2));
    edges.range(13, "`layer`: 0 to 7", past, 0, 7, ARGUMENT, (x, n) -> x.letter(1, 0, 2, n));
    edges.of(11, "if there is no such leaf or line");
    edges.refuses(INDEX, "neither", past, x -> x.weight(2, 2, 0));
    edges.refuses(INDEX, "a line of another leaf", past, x -> x.weight(0, 1, 0));
    edges.of(11, "if layer is out of range");
    edges.refuses(ARGUMENT, "a scholar too many", past, x -> x.weight(0, 0, 8));
    edges.of(12, "if there is no such leaf or line");
    edges.refuses(INDEX, "neither", past, x -> x.readings(2, 2, 0));
    edges.refuses(INDEX, "a line of another leaf", past, x -> x.readings(0, 1, 0));
    edges.of(12, "if layer is out of range");
    edges.refuses(ARGUMENT, "a scholar too many", past, x -> x.readings(0, 0, 8));
    edges.of(13, "if there is no such leaf, line or cell");
    edges.refuses(INDEX, "none of three", past, x -> x.letter(2, 2, 3, 0));
    edges.refuses(INDEX, "a cell of another leaf", past, x -> x.letter(0, 0, 1, 0));
    edges.of(13, "if layer is out of range");
    edges.refuses(ARGUMENT, "a scholar too many", past, x -> x.letter(0, 0, 0, 8));
    edges.of(11, ORDER);
    edges.refuses(INDEX, "no leaf, no layer", past, x -> x.weight(2, 0, 8));
    edges.refuses(INDEX, "no line, no layer", past, x -> x.weight(1, 2, -1));
    edges.of(12, ORDER);
    edges.refuses(INDEX, "no leaf, no layer", past, x -> x.readings(-1, 0, 8));
    edges.refuses(INDEX, "no line, no layer", past, x -> x.readings(1, -1, -1));
    edges.of(13, ORDER);
    edges.refuses(INDEX, "no leaf, no layer", past, x -> x.letter(2, 0, 0, 8));
    edges.refuses(INDEX, "no line, no layer", past, x -> x.letter(1, 2, 0, 8));
    edges.refuses(INDEX, "no cell, no layer", past, x -> x.letter(1, 1, 3, -1));
  }

  /** A line with its best weight, how many readings have it, and the letters of the first. */
  private void read(String what, Past past, int layer, int weight, int readings, int... letters) {
    edges.of(11, "Returns the weight of the best readings of a line.");
    edges.of(11, "Returns the weight; NONE if it cannot be read.");
    edges.is(weight, what + ": its weight", past, x -> x.weight(0, 0, layer));
    edges.of(12, "Returns how many best readings a line has.");
    edges.of(12, "Returns how many.");
    edges.is(readings, what + ": its readings", past, x -> x.readings(0, 0, layer));
    edges.of(13, "Returns a letter of the first best reading of a line.");
    edges.of(13, "Returns the letter; NONE of a BLANK cell, or if the line cannot be read.");
    for (int i = 0; i < letters.length; i++) {
      int cell = i;
      edges.is(letters[cell], what + ": letter " + cell, past, x -> x.letter(0, 0, cell, layer));
    }
  }

  private void lines() {
    edges.of(11, "has 1 to 4 lines of 1 to 8 cells");
    Past past = NEW.leaf(0, 4, 2).words(3);
    for (int i = 0; i < 4; i++) {
      int n = i;
      past = past.then(x -> x.give(0, 0, n, 1, n % 3, 9 - n));
      if (n > 1) past = past.then(x -> x.give(0, 0, n, 0, 2, 1));
    }
    for (int i = 0; i < 4; i++) {
      int line = i;
      edges.is(line > 1 ? 10 - line : 9 - line, "the weight of line " + line, past, x -> x.weight(0, line, 1));
      edges.is(line > 1 ? 1 : 3, "the readings of line " + line, past, x -> x.readings(0, line, 1));
      edges.is(line % 3, "the last letter of line " + line, past, x -> x.letter(0, line, 1, 1));
      edges.is(line > 1 ? Undertext.SURE : Undertext.DOUBTFUL, "the first cell of line " + line, past, x -> x.state(0, line, 0, 1));
      edges.is(line == 0 ? 1 : 0, "what line " + line + " costs", past.work(2, 2, 0, 1), x -> x.match(0, 0, line, 1, false));
    }
  }

  private void unread() {
    Past past = NEW.leaf(0, 1, 3);
    read("no lexicon", past, 7, NONE, 0, NONE, NONE, NONE);
    read("words that do not fill it", past.word(1, 2), 0, NONE, 0, NONE, NONE, NONE);
    read("a word that is longer", past.word(1, 2, 3, 4), 0, NONE, 0, NONE, NONE, NONE);
    read("a word as long", past.word(1, 2, 3), 0, 0, 1, 1, 2, 3);
    read("a first letter that no word has", past.word(1, 2, 3).give(0, 0, 0, 2, 9), 1, NONE, 0, NONE, NONE, NONE);
    read("a last letter that no word has", past.word(1, 2, 3).give(0, 0, 2, 2, 9), 1, NONE, 0, NONE, NONE, NONE);
    read("a BLANK cell ahead of two", past.word(1, 2, 3).blank(0, 0), 0, NONE, 0, NONE, NONE, NONE);
    read("a BLANK cell in the last place", past.word(1, 2, 3).blank(0, 2), 0, NONE, 0, NONE, NONE, NONE);
    Past dead = NEW.leaf(0, 1, 2).word(1).give(0, 0, 0, 1, 5).give(0, 0, 1, 9, 5);
    read("a word, and behind it a letter that no word has", dead, 1, NONE, 0, NONE, NONE);
    read("a letter that no word has, and behind it a word", NEW.leaf(0, 1, 2).word(1).give(0, 0, 0, 9, 5).give(0, 0, 1, 1, 5), 1, NONE, 0, NONE, NONE);
    read("a weighty word that nothing fits behind", dead.word(1, 9), 1, 10, 1, 1, 9);
    read("one cell, no word of one", NEW.leaf(0, 1, 1).word(1, 2), 0, NONE, 0, NONE);
  }

  private void given() {
    edges.of(11, "the letter of each cell is one that the layer gives, with its weight, or, if it gives none, any, with the weight 0");
    Past past = NEW.leaf(0, 1, 1).word(3).word(4);
    read("none given: any, without weight", past, 7, 0, 2, 3);
    read("the least weight", past.give(0, 0, 0, 4, 1), 1, 1, 1, 4);
    read("given by another layer", past.give(0, 0, 0, 4, 1), 6, 0, 2, 3);
    read("two given, one of which is no word", past.give(0, 0, 0, 4, 1).give(0, 0, 0, 5, 9), 1, 1, 1, 4);
    read("taken back: any again", past.give(0, 0, 0, 4, 1).give(0, 0, 0, 4, 0), 1, 0, 2, 3);
    edges.of(11, "The weight of a reading is the sum of these.");
    Past longest = NEW.leaf(0, 1, 8).word(0, 0, 0, 0, 0, 0, 0, 0);
    for (int cell = 0; cell < 8; cell++) {
      for (int scholar = 0; scholar < 3; scholar++) longest = longest.give(scholar, 0, cell, 0, 9);
    }
    read("the greatest weight", longest, 7, 8 * 27, 1, 0, 0, 0, 0, 0, 0, 0, 0);
    read("the least weight of eight cells", NEW.leaf(0, 1, 8).word(0, 0, 0, 0, 0, 0, 0, 0), 7, 0, 1, 0, 0, 0, 0, 0, 0, 0, 0);
    read("the first cell alone", NEW.leaf(0, 1, 2).word(1).give(0, 0, 0, 1, 9), 1, 9, 1, 1, 1);
    read("the last cell alone", NEW.leaf(0, 1, 2).word(1).give(0, 0, 1, 1, 9), 1, 9, 1, 1, 1);
  }

  private void layers() {
    edges.of(11, "A layer is a set of scholars: of a cell the letters that they give, each with the sum of their weights.");
    Past past = NEW.leaf(0, 1, 1).word(3).word(4).give(0, 0, 0, 3, 5).give(1, 0, 0, 4, 3).give(2, 0, 0, 4, 3);
    read("no scholar: none gives", past, 0, 0, 2, 3);
    read("scholar 0", past, 1, 5, 1, 3);
    read("scholars 0 and 1", past, 3, 5, 1, 3);
    read("scholar 2", past, 4, 3, 1, 4);
    read("scholars 1 and 2, a sum", past, 6, 6, 1, 4);
    read("all scholars", past, 7, 6, 1, 4);
    read("all, as weighty", past.give(0, 0, 0, 3, 6), 7, 6, 2, 3);
  }

  private void blankLines() {
    edges.of(11, "(a line of BLANK cells alone is read as no words)");
    for (int i = 1; i <= 8; i++) {
      Past blank = NEW.leaf(0, 1, i);
      for (int cell = 0; cell < i; cell++) blank = blank.blank(0, cell);
      read(i + " BLANK cells, no lexicon", blank, 7, 0, 1, NONE);
      read(i + " BLANK cells, a lexicon", blank.words(12), 0, 0, 1, NONE);
    }
    Past given = NEW.leaf(0, 1, 2).word(1).give(0, 0, 0, 1, 9).give(0, 0, 1, 7, 9);
    read("BLANK cells with letters", given.blank(0, 0, 1), 1, 0, 1, NONE, NONE);
    read("all but one BLANK", given.blank(0, 1), 1, 9, 1, 1, NONE);
  }

  private void blankCells() {
    edges.of(11, "A line is read by a layer as words one behind the other, which fill all cells that are not BLANK, one word not over a BLANK cell");
    Past past = NEW.leaf(0, 1, 3).word(1, 2).word(1);
    read("the first BLANK", past.blank(0, 0), 0, 0, 2, NONE, 1, 1);
    read("the last BLANK", past.blank(0, 2), 0, 0, 2, 1, 1, NONE);
    read("the one in the middle BLANK", past.blank(0, 1), 0, 0, 1, 1, NONE, 1);
    read("two BLANK ahead", past.blank(0, 0, 1), 0, 0, 1, NONE, NONE, 1);
    read("two BLANK behind", past.blank(0, 1, 2), 0, 0, 1, 1, NONE, NONE);
    read("BLANK on both sides", past.blank(0, 0, 2), 0, 0, 1, NONE, 1, NONE);
    read("no word over it", NEW.leaf(0, 1, 3).word(1, 2).blank(0, 1), 0, NONE, 0, NONE, NONE, NONE);
    read("no word over it, as long as all", NEW.leaf(0, 1, 3).word(1, 2, 3).blank(0, 1), 0, NONE, 0, NONE, NONE, NONE);
    edges.of(13, "Returns the letter; NONE of a BLANK cell");
    edges.is(NONE, "in a line that can be read", past.blank(0, 1), x -> x.letter(0, 0, 1, 7));
    edges.is(NONE, "with letters of its own", past.give(0, 0, 1, 1, 9).blank(0, 1), x -> x.letter(0, 0, 1, 7));
    Past lines = NEW.then(x -> x.leaf(0, 4, 1, NONE, 0)).word(1).then(x -> x.image(0, 3, 0, 0, 0));
    for (int i = 0; i < 4; i++) {
      int line = i;
      edges.is(line == 3 ? NONE : 1, "of line " + line, lines, x -> x.letter(0, line, 0, 0));
    }
  }

  private void wordLines() {
    edges.of(11, "which fill all cells");
    for (int i = 1; i <= 8; i++) {
      for (int k = 1; k <= 8; k++) {
        boolean fills = k % i == 0;
        read("words of " + i + " on " + k + " cells", NEW.leaf(0, 1, k).word(new int[i]), 0, fills ? 0 : NONE, fills ? 1 : 0, fills ? 0 : NONE);
      }
    }
  }

  private void manyReadings() {
    edges.of(12, "Readings with unlike words, or the same in unlike cells, are unlike ones");
    read("a word of each length", lengths(8), 0, 0, 128, 0, 0, 0, 0, 0, 0, 0, 0);
    Past alike = NEW.leaf(0, 1, 3).word(0, 1).word(0).word(1, 0).give(0, 0, 1, 1, 1);
    read("ab a, a ba: unlike words, the same letters", alike, 1, 1, 2, 0, 1, 0);
    read("a aa, aa a: the same words in unlike cells", NEW.leaf(0, 1, 3).word(0, 0).word(0).give(0, 0, 0, 0, 1), 1, 1, 3, 0, 0, 0);
    Past most = NEW.leaf(0, 1, 8).words(12);
    read("the most that can be", most, 0, 0, 429981696, 0, 0, 0, 0, 0, 0, 0, 0);
    edges.of(12, "the best are those with the greatest weight");
    read("one of the most", most.give(0, 0, 7, 11, 1), 1, 1, 35831808, 0, 0, 0, 0, 0, 0, 0, 11);
    Past two = NEW.leaf(0, 1, 2).word(0, 0).word(0, 1).word(1, 0);
    read("as weighty", two.give(0, 0, 0, 0, 4).give(0, 0, 0, 1, 4), 1, 4, 3, 0, 0);
    read("by one more", two.give(0, 0, 0, 0, 4).give(0, 0, 0, 1, 5), 1, 5, 1, 1, 0);
    read("by one less", two.give(0, 0, 0, 0, 4).give(0, 0, 0, 1, 3), 1, 4, 2, 0, 0);
  }

  /** A leaf of as many cells, and words of all lengths up to that. */
  private static Past lengths(int cells) {
    Past past = NEW.leaf(0, 1, cells);
    for (int i = 1; i <= cells; i++) past = past.word(new int[i]);
    return past;
  }

  private void firstReading() {
    edges.of(13, "the first of these is one with the lowest letters, cell by cell");
    Past past = NEW.leaf(0, 1, 2);
    read("the lowest letter in the first cell", past.word(1, 25).word(2, 0), 0, 0, 2, 1, 25);
    read("told the other way", past.word(2, 0).word(1, 25), 0, 0, 2, 1, 25);
    read("the lowest letter in the last cell", past.word(1, 25).word(1, 24), 0, 0, 2, 1, 24);
    read("the least and the greatest letter", past.word(25).word(0), 0, 0, 4, 0, 0);
    read("weight goes ahead of letters", past.word(25).word(0).give(0, 0, 0, 25, 1), 1, 1, 2, 25, 0);
    Past blank = NEW.leaf(0, 1, 3).word(3).word(2).blank(0, 0);
    read("behind a BLANK cell", blank, 0, 0, 4, NONE, 2, 2);
    read("eight cells, the last decides", NEW.leaf(0, 1, 8).word(1, 1, 1, 1, 1, 1, 1, 3).word(1, 1, 1, 1, 1, 1, 1, 2), 0, 0, 2, 1, 1, 1, 1, 1, 1, 1, 2);
    Past tail = NEW.leaf(0, 1, 3);
    read("a long word, and one whose rest is higher", tail.word(0, 1, 5).word(0, 1).word(7), 0, 0, 4, 0, 1, 5);
    read("a long word, and one whose rest is lower", tail.word(0, 1, 5).word(0, 1).word(3), 0, 0, 4, 0, 1, 3);
    read("a short word told first, whose rest is higher", tail.word(0, 1).word(7).word(0, 1, 5), 0, 0, 4, 0, 1, 5);
    read("a short word told first, whose rest is lower", tail.word(0, 1).word(3).word(0, 1, 5), 0, 0, 4, 0, 1, 3);
    read("long words ahead of short ones", NEW.leaf(0, 1, 3).word(1).word(1, 0).word(1, 0, 2), 0, 0, 4, 1, 0, 1);
  }
}
