import java.lang.management.ManagementFactory;

/**
 * Runs of the dearest calls, 512 each: what they make stays far below the room that a run has, some
 * 600,000 objects; and they come to an end.
 */
public final class RoomTest {
  private static final int NONE = Undertext.NONE;
  private static final long MOST_BYTES = 400_000;
  private static final Due due = new Due("RoomTest");

  interface Run {
    void call(Undertext x, int i);
  }

  public static void main(String[] args) {
    measure("leaves", (x, i) -> x.leaf(i % 2, 4, 8, NONE, 255), 10);
    measure("arrangements", RoomTest::arrange, 512);
    measure("what leaves rest on", RoomTest::rest, 512);
    measure("lights and worth", RoomTest::light, 512);
    measure("lines", RoomTest::line, 512);
    measure("works", RoomTest::work, 512);
    due.end();
  }

  private static void measure(String what, Run run, int calls) {
    com.sun.management.ThreadMXBean bean = (com.sun.management.ThreadMXBean) ManagementFactory.getThreadMXBean();
    long least = Long.MAX_VALUE;
    // The first time counts what the machine itself makes when it meets code that is new to it.
    for (int time = 0; time < 3; time++) {
      long before = bean.getThreadAllocatedBytes(Thread.currentThread().getId());
      Undertext x = new Undertext();
      for (int i = 0; i < calls; i++) run.call(x, i);
      least = Math.min(least, bean.getThreadAllocatedBytes(Thread.currentThread().getId()) - before);
    }
    due.compare("true", what + " made " + least + " bytes, which is little", String.valueOf(least <= MOST_BYTES));
  }

  private static void arrange(Undertext x, int i) {
    if (i < 6) x.leaf(0, 4, 8, NONE, 0);
    else if (i < 18) x.fact(Undertext.AHEAD, 0, 1, true);
    else if (i % 2 == 0) x.hold(i % 12, i % 4 == 0);
    else x.arrangements(0, i % 4 == 1);
  }

  private static void rest(Undertext x, int i) {
    if (i < 6) x.leaf(0, 4, 8, NONE, 0);
    else if (i == 6) x.fact(Undertext.AT, 0, 0, true);
    else if (i < 18) x.fact(Undertext.APART, 1 + i % 5, 1 + (i + 1) % 5, true);
    else if (i % 2 == 0) x.hold(1 + i % 11, i % 4 == 0);
    else x.rests(0);
  }

  private static void light(Undertext x, int i) {
    if (i < 10) x.leaf(i % 2, 4, 8, NONE, 0);
    else if (i < 266) x.image(i % 8, i / 8 % 4, i / 32 % 8, i % 3, i % 19);
    else if (i % 2 == 0) x.light(i % 3, i % 10, i / 2 % 10);
    else x.worth();
  }

  private static void line(Undertext x, int i) {
    if (i == 0) x.leaf(0, 1, 8, NONE, 0);
    else if (i > 24) x.state(0, 0, i % 8, i % 8);
    else if (i % 2 == 1) x.type(i / 2);
    else x.word();
  }

  private static void work(Undertext x, int i) {
    if (i == 0) x.leaf(0, 1, 8, NONE, 0);
    else if (i == 1) x.type(0);
    else if (i == 2) x.word();
    else if (i < 43) x.type(i % 26);
    else if (i == 43) x.work();
    else x.match(0, 0, 0, i % 8, i % 2 == 0);
  }
}
