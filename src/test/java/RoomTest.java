import java.lang.management.ManagementFactory;

/** What calls take of the one room: a new object and its shapes take some, nothing else takes any. */
public final class RoomTest {
  private static final Due DUE = new Due("RoomTest");
  private static final com.sun.management.ThreadMXBean MEASURE =
      (com.sun.management.ThreadMXBean) ManagementFactory.getThreadMXBean();

  private static long taken() {
    return MEASURE.getThreadAllocatedBytes(Thread.currentThread().getId());
  }

  /** The dearest of each sort of call. */
  private static long dear(PlatesSing x) {
    long sum = x.turnsOf(0) + x.orbit(0, 1) + x.table(0, 0) + x.alike(0, 0, 1) + x.split(0, 5, 9, 1);
    sum += x.led(0, 5, 9, 0) + x.bounds(0, 5, 9, 3, 1) + x.sums(0, 999, 6) + x.still(0, 0, 11) + x.below(0, 991, 1);
    x.plan(0, 0, 1, 3);
    x.plan(0, 1, 2, 3);
    x.plan(0, 2, 3, 3);
    x.plan(0, 3, 4, 3);
    x.plan(0, 4, 5, 3);
    x.plan(0, 0, -1, 3);
    for (int i = 0; i < 6; i++) x.wish(i, 9, 3);
    sum += x.moved(0, 0, 9) + x.tune(0) + x.tune(2) + x.forget();
    x.hear(0);
    sum += x.fits(0, 9, 0) + x.next(0, 9) + x.unhear();
    sum += x.blow(0, 0, 99, 200) + x.roll(0, 1, 1) + x.rolled(0, 200) + x.loud(0, 1) + x.heard(0, 3);
    x.row(0, 2, 60);
    sum += x.write(0, 0, 0, 60) + x.loudness(0, 60) + x.strongest(0) + x.shift(0, 0, 0, 1, 59) + x.element(0, 3);
    x.ratio(1, 1);
    sum += x.agree(0, 2, 0, 1) + x.unratio() + x.law(0, 11);
    x.put(0, 0, 0, 1);
    x.put(0, 0, 0, 0);
    x.crack(0, 0, 1, 1);
    sum += x.undo() + x.redo() + x.undo() + x.digest() + x.act(0, 3, 5) + x.trace(0) + x.keep(0, 0) + x.taken(0, 0);
    return sum + x.count(3) + x.feed(1, 'x') + x.shape() + x.join(0, 0, 0, 1);
  }

  public static void main(String[] args) {
    StringBuilder text = new StringBuilder("c999999");
    for (char a = 'a'; a <= 'f'; a++) for (char b = 'a'; b < a; b++) text.append(";p").append(a).append(b).append('9');
    PlatesSing x = Due.with(text.toString());
    x.ear(0, 0);
    long sum = 0;
    for (int k = 0; k < 3; k++) sum += dear(x);
    long before = taken();
    for (int k = 0; k < 8; k++) sum += dear(x);
    long after = taken();
    // the measure itself may cost some bytes
    DUE.is("calls take room: " + (after - before) + " bytes (" + sum + ")", after - before < 4096 ? 1 : 0, 1);
    before = taken();
    PlatesSing y = new PlatesSing();
    after = taken();
    DUE.is("a new object takes " + (after - before) + " bytes" + y.count(0), after - before < 65536 ? 1 : 0, 1);
    DUE.finish();
  }
}
