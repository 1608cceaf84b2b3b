import java.util.List;

/** Holds the class against sentences of the document, each of which is named ahead of what is asked. */
final class Edges {
  /** A call in which one number is tried. */
  interface Tried {
    Object on(Undertext x, int value);
  }

  static final String INDEX = Due.INDEX;
  static final String ARGUMENT = Due.ARGUMENT;
  static final String STATE = Due.STATE;

  private final Due due;
  private final Sentences sentences;
  private String named = "";

  Edges(Due due, Sentences sentences) {
    this.due = due;
    this.sentences = sentences;
  }

  /** What follows holds the class against these words, of the promise's own or from ahead of all promises. */
  void of(int promise, String words) {
    named = "promise " + promise + ", \"" + words + "\": ";
    due.compare("true", named + "stands in the document", String.valueOf(sentences.name(promise, words)));
  }

  void is(Object answer, String what, Past past, Past.Call call) {
    due.is(answer, named + what, () -> call.on(past.made()));
    due.is(answer, named + what + ", with questions in between", () -> call.on(past.madeAsked()));
  }

  /** The call is refused with the exception, and nothing that can be asked changes. */
  void refuses(String exception, String what, Past past, Past.Call call) {
    is(exception, what, past, call);
    same(what + " changes nothing", past, past.thenTried(List.of(call)));
  }

  void same(String what, Past past, Past then) {
    List<String> before = past.snapshot();
    List<String> after = then.snapshot();
    due.compare(String.valueOf(before.size()), named + what + ", answers", String.valueOf(after.size()));
    for (int i = 0; i < before.size() && i < after.size(); i++) {
      if (!before.get(i).equals(after.get(i))) {
        due.compare(before.get(i), named + what, after.get(i));
        return;
      }
    }
  }

  private void takes(Past past, int value, Tried call) {
    String answer = Due.answerOf(() -> call.on(past.made(), value));
    due.compare("true", named + value + ", taken, not " + answer, String.valueOf(!answer.startsWith("throws.")));
  }

  /**
   * The least and the greatest value of a range are taken. The first ones beyond are refused, those
   * farthest out, and some that would be in range if numbers had fewer bits, or shifts wrapped around.
   */
  void range(int promise, String words, Past past, int least, int greatest, String exception, Tried call) {
    of(promise, words);
    takes(past, least, call);
    takes(past, greatest, call);
    int[] beyond = {least - 1, greatest + 1, Integer.MIN_VALUE, Integer.MAX_VALUE,
      greatest + 32, least + 256, least + 65536, least + Integer.MIN_VALUE, least - 32, least - 256};
    for (int each : beyond) {
      if (each < least || each > greatest) refuses(exception, "value " + each, past, x -> call.on(x, each));
    }
  }
}
