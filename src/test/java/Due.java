/** Counts calls whose answers are not the ones that are due, and prints each. */
final class Due {
  static final String INDEX = "throws.IndexOutOfBoundsException";
  static final String ARGUMENT = "throws.IllegalArgumentException";
  static final String STATE = "throws.IllegalStateException";

  /** A call whose answer is told as a text: a number, a truth value, or throws. and an exception's name. */
  interface Call {
    Object run();
  }

  private final String test;
  private int asked = 0;
  private int wrong = 0;

  Due(String test) {
    this.test = test;
  }

  static String answerOf(Call call) {
    try {
      return String.valueOf(call.run());
    } catch (RuntimeException thrown) {
      return "throws." + thrown.getClass().getSimpleName();
    }
  }

  void is(Object due, String what, Call call) {
    compare(String.valueOf(due), what, answerOf(call));
  }

  void compare(String due, String what, String got) {
    asked++;
    if (due.equals(got)) return;
    wrong++;
    System.out.println(test + ": " + what + " answered " + got + ", due is " + due);
  }

  void end() {
    System.out.println(test + ": " + asked + " asked, " + wrong + " wrong");
    if (wrong != 0 || asked == 0) System.exit(1);
  }
}
