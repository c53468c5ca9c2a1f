import java.util.function.Consumer;

/** A snapshot sees every change that a call can make; without that, "nothing has changed" would say nothing. */
public final class SnapshotTest {
  private static final Due DUE = new Due("SnapshotTest");

  private static String after(Consumer<PlatesSing> world, Consumer<PlatesSing> call) {
    PlatesSing x = new PlatesSing();
    world.accept(x);
    call.accept(x);
    return Snapshot.of(x);
  }

  private static void seen(String what, Consumer<PlatesSing> call) {
    String untouched = after(Worlds::busy, x -> { });
    DUE.is("a change by " + what + " is not seen", after(Worlds::busy, call).equals(untouched) ? 1 : 0, 0);
  }

  private static void changes() {
    seen("feed", x -> x.feed(1, '1'));
    seen("feed of a sign that fits nowhere", x -> x.feed(1, 'x'));
    seen("shape", x -> x.shape());
    for (int what = 0; what <= 2; what++) {
      int w = what;
      for (int shape = 0; shape < 5; shape++) {
        int s = shape;
        seen("put of shape " + s, x -> x.put(s, 0, w, w < 2 ? 9 : 1 - x.of(s, 40)));
      }
    }
    seen("crack", x -> x.crack(1, 0, 1, 3));
    seen("stroke on a piece", x -> x.stroke(0, 0, 1));
    seen("stroke on a corner", x -> x.stroke(3, 0, -1));
    seen("plan", x -> x.plan(0, 1, 2, 1));
    seen("plan, how often", x -> {
      x.forget();
      x.plan(0, 0, 1, 3);
      x.plan(0, 0, -1, 1);
      x.wish(0, 9, 3);
      x.wish(1, 3, 6);
    });
    seen("wish", x -> x.wish(2, 1, 9));
    seen("forget", x -> x.forget());
    seen("hear", x -> x.hear(9));
    seen("unhear", x -> x.unhear());
    seen("damp", x -> x.damp(21));
    for (int ear = 0; ear < 4; ear++) {
      int e = ear;
      seen("ear " + e, x -> x.ear(e, 4));
    }
    seen("blow", x -> x.blow(0, 0, 51, 40));
    seen("blow at another corner", x -> x.blow(0, 1, 50, 40));
    seen("blow with another number of steps", x -> x.blow(0, 0, 50, 39));
    seen("roll", x -> x.roll(2, 1, 99));
    seen("rolled", x -> x.rolled(0, 40));
    seen("write", x -> x.write(0, 0, 3, 1));
    seen("ratio", x -> x.ratio(9, 9));
    seen("unratio", x -> x.unratio());
    seen("join", x -> x.join(4, 4, 0, 1));
    seen("undo", x -> x.undo());
    seen("redo", x -> x.redo());
    seen("undo of all", x -> {
      for (int k = 0; k < 4; k++) x.undo();
    });
    seen("body", x -> x.body(3));
    seen("act", x -> x.act(12, 2, 5));
    seen("an act that is not there", x -> x.act(12, 4, 5));
    for (int shelf = 0; shelf < 6; shelf++) {
      int s = shelf;
      seen("keep on shelf " + s, x -> x.keep(s, 8));
      seen("row on shelf " + s, x -> x.row(s, 2, 5));
      if (s != 5) seen("nothing on shelf " + s, x -> x.keep(s, -1));
      if (s < 4) seen("a row of another sort on shelf " + s, x -> sameWithSort(x, s));
      if (s < 4) seen("place on shelf " + s, x -> x.place(s, 3, 1));
      if (s < 4) seen("shift on shelf " + s, x -> x.shift(s, 1, s, 2, 2));
    }
  }

  /** The same elements in a row of ints. */
  private static void sameWithSort(PlatesSing x, int shelf) {
    int size = shelf == 0 ? 6 : 4;
    long[] all = new long[size];
    for (int i = 0; i < size; i++) all[i] = x.element(shelf, i);
    x.row(shelf, 2, size);
    for (int i = 0; i < size; i++) x.place(shelf, i, all[i]);
  }

  private static void sameStateSameText() {
    DUE.is("the same calls", after(Worlds::busy, x -> { }).equals(after(Worlds::busy, x -> { })) ? 1 : 0, 1);
    DUE.is("the same calls", after(Worlds::full, x -> { }).equals(after(Worlds::full, x -> { })) ? 1 : 0, 1);
  }

  /** "All memory is the class's own": what one object is told is not told to another one. */
  private static void objectsAreApart() {
    String fresh = after(x -> { }, x -> { });
    String busy = after(Worlds::busy, x -> { });
    PlatesSing one = new PlatesSing();
    PlatesSing other = new PlatesSing();
    Worlds.busy(one);
    PlatesSing third = new PlatesSing();
    Worlds.full(third);
    DUE.is("an object made before another one was busy", Snapshot.of(other).equals(fresh) ? 1 : 0, 1);
    DUE.is("an object made behind it", Snapshot.of(new PlatesSing()).equals(fresh) ? 1 : 0, 1);
    DUE.is("the busy one, behind a full one", Snapshot.of(one).equals(busy) ? 1 : 0, 1);
  }

  public static void main(String[] args) {
    changes();
    sameStateSameText();
    objectsAreApart();
    DUE.finish();
  }
}
