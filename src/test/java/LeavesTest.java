/** Promises 1 to 6: a new object, leaves, sheets, lights, images, unmixing. */
public final class LeavesTest {
  private static final int NONE = Undertext.NONE;
  private static final int HAIR = Undertext.HAIR;
  private static final Due due = new Due("LeavesTest");

  public static void main(String[] args) {
    newObject();
    leaves();
    leavesFull();
    sheets();
    lights();
    images();
    unmixing();
    manyLights();
    due.end();
  }

  private static void newObject() {
    Undertext x = new Undertext();
    due.is(Due.INDEX, "a new object's leaf 0", () -> x.dates(0));
    due.is(Due.INDEX, "a new object's fact 0", () -> x.hold(0, true));
    due.is(Due.STATE, "a new object's draft as a word", x::word);
    due.is(Due.STATE, "a new object's draft as a work", x::work);
    due.is(1, "a new object's arrangements of book 0", () -> x.arrangements(0, true));
    due.is(1, "a new object's arrangements of book 1", () -> x.arrangements(1, false));
    due.is(NONE, "a new object's worth", x::worth);
    due.is(NONE, "a new object's edition", () -> x.edition(1, 7));
    due.is(0, "the first leaf", () -> x.leaf(1, 1, 1, NONE, 0));
    due.is(Due.INDEX, "no work", () -> x.match(0, 0, 0, 0, false));
    due.is(NONE, "no words", () -> x.weight(0, 0, 7));
    due.is(1, "the first letter of a draft", () -> x.type(0));
    due.is(0, "the first word", x::word);
  }

  private static void leaves() {
    Undertext x = new Undertext();
    due.is(0, "leaf 0", () -> x.leaf(0, 4, 8, Undertext.FLESH, 255));
    due.is(1, "leaf 1", () -> x.leaf(1, 1, 1, HAIR, 0));
    due.is(2, "leaf 2", () -> x.leaf(0, 2, 3, NONE, 128));
    due.is(NONE, "the last cell of leaf 0", () -> x.unmix(0, 3, 7, true));
    due.is(NONE, "the last cell of leaf 2", () -> x.unmix(2, 1, 2, true));
    due.is(Due.INDEX, "a line behind the last", () -> x.unmix(2, 2, 0, true));
    due.is(Due.INDEX, "a cell behind the last", () -> x.unmix(2, 0, 3, true));
    due.is(8, "book 1's only leaf", () -> x.arrangements(1, true));
    due.is(56, "book 0's two leaves", () -> x.arrangements(0, true));
  }

  private static void leavesFull() {
    Undertext x = new Undertext();
    for (int i = 0; i < 6; i++) x.leaf(0, 1, 1, NONE, 0);
    due.is(Due.STATE, "a seventh leaf of a book", () -> x.leaf(0, 1, 1, NONE, 0));
    due.is(Due.ARGUMENT, "a bad seventh leaf", () -> x.leaf(0, 1, 1, NONE, 300));
    x.sheets(1, 2);
    for (int i = 0; i < 4; i++) x.leaf(1, 1, 1, NONE, 0);
    due.is(Due.STATE, "an eleventh leaf", () -> x.leaf(1, 1, 1, NONE, 0));
    x.sheets(1, 3);
    due.is(Due.STATE, "an eleventh leaf where there is room", () -> x.leaf(1, 1, 1, NONE, 0));
    Undertext y = new Undertext();
    y.sheets(1, 1);
    y.leaf(1, 1, 1, NONE, 0);
    y.leaf(1, 1, 1, NONE, 0);
    due.is(Due.STATE, "a third leaf on one sheet", () -> y.leaf(1, 1, 1, NONE, 0));
    due.is(2, "a leaf of the other book", () -> y.leaf(0, 1, 1, NONE, 0));
    y.sheets(1, 2);
    due.is(3, "a third leaf on two sheets", () -> y.leaf(1, 1, 1, NONE, 0));
  }

  private static void sheets() {
    Undertext x = new Undertext();
    due.is(4, "the sheets at first", () -> x.sheets(0, 3));
    due.is(3, "the sheets then", () -> x.sheets(0, 3));
    due.is(4, "the other book's sheets", () -> x.sheets(1, 1));
    x.leaf(0, 1, 1, NONE, 0);
    x.leaf(0, 1, 1, NONE, 0);
    x.leaf(0, 1, 1, NONE, 0);
    due.is(6 * 5 * 4, "three leaves on three sheets", () -> x.arrangements(0, true));
    due.is(Due.INDEX, "sheets of book 2", () -> x.sheets(2, 9));
    due.is(Due.INDEX, "sheets of book -1", () -> x.sheets(-1, 1));
    due.is(Due.ARGUMENT, "no sheets", () -> x.sheets(0, 0));
    due.is(Due.ARGUMENT, "five sheets", () -> x.sheets(0, 5));
    due.is(Due.STATE, "too few sheets", () -> x.sheets(0, 1));
    due.is(3, "as many sheets as are needed", () -> x.sheets(0, 2));
    due.is(4 * 3 * 2, "three leaves on two sheets", () -> x.arrangements(0, true));
    x.leaf(0, 1, 1, NONE, 0);
    due.is(2, "as many sheets as a full book has", () -> x.sheets(0, 2));
    due.is(24, "four leaves on two sheets", () -> x.arrangements(0, true));
    due.is(2, "the sheets last", () -> x.sheets(0, 4));
  }

  private static void lights() {
    Undertext x = new Undertext();
    x.leaf(0, 1, 2, NONE, 0);
    x.image(0, 0, 0, 0, 11);
    x.image(0, 0, 0, 1, 11);
    due.is(NONE, "like lights do not unmix", () -> x.unmix(0, 0, 0, true));
    x.light(1, 9, 0);
    due.is(NONE, "an image that cannot be", () -> x.unmix(0, 0, 0, true));
    x.image(0, 0, 0, 1, 63);
    due.is(7, "a light of overtext alone", () -> x.unmix(0, 0, 0, false));
    due.is(4, "the undertext beside it", () -> x.unmix(0, 0, 0, true));
    due.is(Due.INDEX, "light -1", () -> done(() -> x.light(-1, 10, 0)));
    due.is(Due.INDEX, "light 3", () -> done(() -> x.light(3, 1, 1)));
    due.is(Due.ARGUMENT, "over 10", () -> done(() -> x.light(0, 10, 1)));
    due.is(Due.ARGUMENT, "over -1", () -> done(() -> x.light(0, -1, 1)));
    due.is(Due.ARGUMENT, "under 10", () -> done(() -> x.light(0, 1, 10)));
    due.is(Due.ARGUMENT, "under -1", () -> done(() -> x.light(0, 1, -1)));
    x.light(0, 1, 2);
    due.is(2, "images stay as the light goes on", () -> x.unmix(0, 0, 0, true));
    x.light(0, 1, 1);
    due.is(4, "and as it goes back", () -> x.unmix(0, 0, 0, true));
  }

  private static String done(Runnable call) {
    call.run();
    return "done";
  }

  private static void images() {
    Undertext x = new Undertext();
    x.leaf(0, 2, 2, NONE, 0);
    due.is(NONE, "an image of many pairs", () -> x.image(0, 1, 1, 0, 17));
    due.is(9, "an image of one pair", () -> x.image(0, 1, 1, 0, 18));
    due.is(NONE, "an image of no pair", () -> x.image(0, 1, 1, 0, 19));
    due.is(NONE, "the greatest image", () -> x.image(0, 1, 1, 0, 162));
    due.is(0, "an image of no ink", () -> x.image(0, 1, 1, 0, 0));
    due.is(Undertext.LOST, "a line of words that are not", () -> x.state(0, 1, 0, 0));
    due.is(NONE, "the cell beside it", () -> x.unmix(0, 1, 0, true));
    due.is(NONE, "the cell above it", () -> x.unmix(0, 0, 1, true));
    due.is(NONE, "an image taken away", () -> x.image(0, 1, 1, 0, NONE));
    due.is(NONE, "an image taken away again", () -> x.image(0, 1, 1, 0, NONE));
    due.is(NONE, "no images", () -> x.unmix(0, 1, 1, true));
    due.is(NONE, "the overtext of no images", () -> x.unmix(0, 1, 1, false));
    for (int i = 0; i < 3; i++) {
      int light = i;
      due.is(9, "what light " + light + " takes at first", () -> x.image(0, 0, 0, light, 18));
      x.image(0, 0, 0, light, NONE);
    }
    due.is(NONE, "many pairs", () -> x.image(0, 0, 0, 0, 17));
    due.is(NONE, "the overtext of many pairs", () -> x.unmix(0, 0, 0, false));
    x.light(2, 9, 9);
    due.is(9, "the greatest measures", () -> x.image(0, 1, 1, 2, 162));
    x.light(1, 0, 0);
    due.is(NONE, "a light that takes nothing cannot have taken some", () -> x.image(0, 1, 1, 1, 1));
    due.is(9, "a light that takes nothing tells nothing", () -> x.image(0, 1, 1, 1, 0));
  }

  private static void unmixing() {
    Undertext x = new Undertext();
    x.leaf(0, 1, 3, NONE, 0);
    x.light(0, 2, 3);
    x.light(1, 1, 5);
    due.is(NONE, "2 o + 3 u = 18 has more than one pair", () -> x.image(0, 0, 1, 0, 18));
    due.is(4, "o + 5 u = 23 settles it", () -> x.image(0, 0, 1, 1, 23));
    due.is(3, "the overtext of it", () -> x.unmix(0, 0, 1, false));
    due.is(4, "the undertext of it", () -> x.unmix(0, 0, 1, true));
    due.is(NONE, "three images that do not agree", () -> x.image(0, 0, 1, 2, 8));
    due.is(NONE, "the overtext of those", () -> x.unmix(0, 0, 1, false));
    due.is(4, "three images that agree", () -> x.image(0, 0, 1, 2, 7));
    due.is(4, "one of three gone", () -> x.image(0, 0, 1, 0, NONE));
    due.is(NONE, "measures are not above 9", () -> x.image(0, 0, 1, 2, 19));
    due.is(0, "no overtext and no undertext", () -> x.image(0, 0, 0, 0, 0));
    due.is(0, "the overtext of that", () -> x.unmix(0, 0, 0, false));
    due.is(Due.INDEX, "unmix leaf 1", () -> x.unmix(1, 0, 0, true));
    due.is(Due.INDEX, "unmix line 1", () -> x.unmix(0, 1, 0, true));
    due.is(Due.INDEX, "unmix cell 3", () -> x.unmix(0, 0, 3, false));
    due.is(Due.INDEX, "unmix cell -1", () -> x.unmix(0, 0, -1, false));
  }

  private static void manyLights() {
    Undertext x = new Undertext();
    for (int i = 0; i < 10; i++) x.leaf(i % 2, 4, 8, NONE, 0);
    x.image(9, 3, 7, 2, 5);
    x.light(2, 0, 1);
    due.is(NONE, "any overtext", () -> x.unmix(9, 3, 7, true));
    due.is(5, "a second light settles the last cell", () -> x.image(9, 3, 7, 0, 14));
    due.is(9, "its overtext", () -> x.unmix(9, 3, 7, false));
    x.light(0, 1, 0);
    due.is(NONE, "a light goes off it", () -> x.unmix(9, 3, 7, true));
  }
}
