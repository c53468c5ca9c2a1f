/** Every edge that part 7 names, and the promises 44 to 46. */
public final class EdgesOfUndoTest {
  private static final Due DUE = new Due("EdgesOfUndoTest");
  private static final int STATE = PlatesSing.STATE;
  private static final Edges NEW = new Edges(DUE, x -> { });
  private static final Edges BUSY = new Edges(DUE, Worlds::busy);

  private static void act(PlatesSing x, int k) {
    x.put(0, k % 3, k / 3 % 2, 1 + k % 9);
  }

  // Promise 44: "UNDONE: how many may still be. STATE: none."; promise 45: "DONE AGAIN: how many may still be. STATE: none."
  private static void none() {
    NEW.refuses("44: none", STATE, "undo");
    NEW.refuses("45: none", STATE, "redo");
    Edges allUndone = new Edges(DUE, x -> {
      Worlds.busy(x);
      for (int k = 0; k < 4; k++) x.undo();
    });
    allUndone.refuses("44: all are undone", STATE, "undo");
    allUndone.answers("45: five may be done again", 4, "redo");
    Edges allDone = new Edges(DUE, x -> {
      Worlds.busy(x);
      x.redo();
    });
    allDone.refuses("45: all are done", STATE, "redo");
    allDone.answers("44: five may be undone", 4, "undo");
    BUSY.answers("44: four may be", 3, "undo");
    BUSY.answers("45: one may be", 0, "redo");
  }

  // "PAD, WEIGHT, HOLD, crack, STROKE (by call): each that changed something may be UNDONE, the latest first"
  private static void eachKind() {
    String[] names = {"PAD", "WEIGHT", "HOLD", "crack", "STROKE on a PIECE", "STROKE on a CORNER"};
    for (int kind = 0; kind < 6; kind++) {
      PlatesSing x = Due.with("c12;pab3;hb");
      Due.shape(x, "c9");
      int before = x.digest();
      change(x, kind);
      int after = x.digest();
      DUE.is("44: " + names[kind] + " changes something", before == after ? 1 : 0, 0);
      DUE.is("56: " + names[kind] + " may be UNDONE", x.count(3), 1);
      DUE.is("44: " + names[kind], x.undo(), 0);
      DUE.is("44: " + names[kind] + " is as it was", x.digest(), before);
      DUE.is("45: " + names[kind], x.redo(), 0);
      DUE.is("45: " + names[kind] + " is as it was then", x.digest(), after);
      again(x, kind);
      DUE.is("56: " + names[kind] + " that changes nothing is no act", x.count(3), 1);
      for (int next = 0; next < 6; next++) {
        PlatesSing y = Due.with("c12;pab3;hb");
        change(y, kind);
        y.undo();
        change(y, next);
        DUE.is("45: " + names[next] + " came behind " + names[kind], y.redo(), STATE);
      }
    }
  }

  private static void change(PlatesSing x, int kind) {
    if (kind < 2) x.put(0, 0, kind, 9);
    else if (kind == 2) x.put(0, 1, 2, 0);
    else if (kind == 3) x.crack(0, 0, 1, 3);
    else x.stroke(0, 1, kind == 4 ? 0 : -1);
  }

  /** The same call once more changes nothing; a STROKE is refused at 1. */
  private static void again(PlatesSing x, int kind) {
    if (kind < 4) change(x, kind);
    else {
      PlatesSing y = Due.with("c11;pab1");
      change(y, kind);
      DUE.is("56: a STROKE at 1 is no act", y.count(3), 0);
    }
  }

  // ".. and DONE AGAIN as long as none came behind it"
  private static void whatEndsRedo() {
    PlatesSing x = BUSY.make();
    x.put(0, 0, 0, 3);
    x.crack(0, 0, 1, 1);
    x.put(0, 0, 0, 10);
    x.stroke(1, 0, -1);
    x.join(4, 4, 0, 1);
    x.body(0);
    x.forget();
    x.blow(0, 0, 1, 1);
    x.feed(1, '1');
    x.shape();
    DUE.is("45: nothing of that was an act that changed something", x.redo(), 0);
    PlatesSing y = Due.with("c111");
    for (int k = 0; k < 5; k++) act(y, k);
    for (int k = 0; k < 3; k++) y.undo();
    act(y, 8);
    DUE.is("56: two and one", y.count(3), 3);
    DUE.is("45: none", y.redo(), STATE);
    DUE.is("44: the one", y.undo(), 2);
    DUE.is("45: the one may be done again, not the three", y.redo(), 0);
    // an act upon another shape comes behind it, too
    PlatesSing z = Due.with("c1");
    Due.shape(z, "c1");
    z.put(0, 0, 0, 1);
    z.undo();
    z.put(1, 0, 0, 1);
    DUE.is("45: another shape's act came behind it", z.redo(), STATE);
  }

  // "(40 at most are kept; the oldest goes)"
  private static void forty() {
    for (int acts = 38; acts <= 43; acts++) {
      PlatesSing x = Due.with("c111");
      int[] digests = new int[acts + 1];
      digests[0] = x.digest();
      for (int k = 0; k < acts; k++) {
        act(x, k);
        digests[k + 1] = x.digest();
      }
      int kept = Math.min(40, acts);
      DUE.is("56: of " + acts, x.count(3), kept);
      for (int k = 1; k <= kept; k++) {
        DUE.is("44: of " + acts, x.undo(), kept - k);
        DUE.is("44: of " + acts + ", what it was", x.digest(), digests[acts - k]);
      }
      DUE.is("44: no more of " + acts, x.undo(), STATE);
      for (int k = kept - 1; k >= 0; k--) {
        DUE.is("45: of " + acts, x.redo(), k);
        DUE.is("45: of " + acts + ", what it was", x.digest(), digests[acts - k]);
      }
      DUE.is("45: no more of " + acts, x.redo(), STATE);
    }
    fortyOfSeveralShapes();
    Edges full = new Edges(DUE, x -> {
      Due.shape(x, "c111");
      for (int k = 0; k < 41; k++) act(x, k);
      for (int k = 0; k < 40; k++) x.undo();
    });
    full.refuses("44: all 40 are undone", STATE, "undo");
    full.answers("45: 40 may be done again", 39, "redo");
    PlatesSing y = full.make();
    act(y, 7);
    DUE.is("56: one came, 40 are gone", y.count(3), 1);
    DUE.is("45: 40 are gone", y.redo(), STATE);
    PlatesSing z = full.make();
    for (int k = 0; k < 39; k++) z.redo();
    act(z, 7);
    DUE.is("56: 39 and one", z.count(3), 40);
    act(z, 8);
    DUE.is("56: still 40", z.count(3), 40);
    DUE.is("45: none", z.redo(), STATE);
  }

  /** The oldest goes with all that was known of it: what it changed, and of which SHAPE. */
  private static void fortyOfSeveralShapes() {
    PlatesSing x = new PlatesSing();
    for (int n = 0; n < 3; n++) Due.shape(x, "c999;pab9;pbc9");
    int[] digests = new int[48];
    digests[0] = x.digest();
    for (int k = 0; k < 47; k++) {
      int shape = k * k % 3;
      if (k % 7 == 0) x.stroke((shape + 1) % 3, 0, 1);
      else if (k % 7 == 1) x.stroke(shape, 2, -1);
      else if (k % 7 == 2) x.crack((shape + 2) % 3, 1, 2, 1 + k % 9);
      else if (k % 7 == 3) x.put(shape, 1, 2, 1 - x.of(shape, 41));
      else x.put((shape + k) % 3, k % 2, k % 7 - 4 == 0 ? 1 : 0, 1 + k % 9);
      digests[k + 1] = x.digest();
      DUE.is("56: acts on several SHAPES", x.count(3), Math.min(40, k + 1));
    }
    for (int k = 46; k >= 7; k--) {
      DUE.is("44: several SHAPES", x.undo(), k - 7);
      DUE.is("44: several SHAPES, what it was", x.digest(), digests[k]);
    }
    DUE.is("44: seven went", x.undo(), STATE);
    for (int k = 8; k <= 47; k++) {
      DUE.is("45: several SHAPES", x.redo(), 47 - k);
      DUE.is("45: several SHAPES, what it was", x.digest(), digests[k]);
    }
  }

  // Promise 46, part 7: "from 7, for all SHAPES by numbers, for all CORNERS HEAVY, PAD, WEIGHT, HELD (1, 0), for all PIECES in order of numbers their CORNERS (lesser, greater), STIFF, crack: times 31, and that (wrapping)"
  private static void digests() {
    NEW.answers("46: no SHAPES", 7, "digest");
    PlatesSing x = new PlatesSing();
    Worlds.full(x);
    int h = 7;
    for (int n = 0; n < 12; n++) {
      for (int c = 0; c < x.of(n, 0); c++) for (int tens = 10; tens <= 40; tens += 10) h = 31 * h + x.of(n, tens + c);
      int first = Integer.MAX_VALUE;
      for (int a = 0; a < 6; a++) for (int b = a + 1; b < 6; b++) if (x.piece(n, a, b, 0) >= 0) first = Math.min(first, x.piece(n, a, b, 0));
      for (int body = first; x.of(n, 1) > 0 && body < first + x.of(n, 1); body++) h = pieceInto(h, x, n, body);
    }
    DUE.is("46: twelve SHAPES", x.digest(), h);
    PlatesSing y = Due.with("c9");
    DUE.is("46: one CORNER", y.digest(), (((7 * 31 + 9) * 31) * 31) * 31);
    Due.shape(y, "c11;pba9;hb");
    int due = y.digest();
    long exact = 7;
    for (int v : new int[] {9, 0, 0, 0, 1, 0, 0, 0, 1, 0, 0, 1, 0, 1, 9, 0}) exact = 31 * exact + v;
    DUE.is("46: it wraps", due, (int) exact);
    DUE.is("46: it does wrap here", exact > Integer.MAX_VALUE || exact < 0 ? 1 : 0, 1);
    // the order of PIECES is that of the text, not that of CORNERS
    PlatesSing z = Due.with("c111;pcb1;pba2");
    int by = 7;
    for (int v : new int[] {1, 0, 0, 0, 1, 0, 0, 0, 1, 0, 0, 0, 1, 2, 1, 0, 0, 1, 2, 0}) by = 31 * by + v;
    DUE.is("46: PIECES in order of numbers", z.digest(), by);
  }

  private static int pieceInto(int h, PlatesSing x, int n, int body) {
    for (int a = 0; a < 6; a++) {
      for (int b = a + 1; b < 6; b++) {
        if (x.piece(n, a, b, 0) == body) return (((h * 31 + a) * 31 + b) * 31 + x.piece(n, a, b, 1)) * 31 + x.piece(n, a, b, 2);
      }
    }
    return h;
  }

  public static void main(String[] args) {
    none();
    eachKind();
    whatEndsRedo();
    forty();
    digests();
    DUE.finish();
  }
}
