import java.util.Arrays;

/** Plates that sing, as the document ../shared/DOC.md promises; the numbers in the comments are its promises. */
public final class PlatesSing {
  public static final int BAD = -1, NOT = -2, FULL = -3, STATE = -4, VOID = -2000000000;

  private static final int NOTHING_THERE = -11, OTHER_KIND = -12, NO_PLACE = -13, SIZE_BELOW_0 = -14;
  private static final int MOST_SHAPES = 12, MOST_CORNERS = 6, MOST_PIECES = 15, MOST_BODIES = 200;
  private static final int MOST_TOLD = 6, MOST_STEPS = 200, HIGHEST = 99, HIGHEST_BY = 9;
  private static final int GREATEST_BYTE = 127, GREATEST_SHORT = 32767, GREATEST_INT = 2147483647;
  /** Long.MIN_VALUE. */
  private static final long NO_LONG = 1L << 63;

  private final Tape tape = new Tape();
  private final Shape[] shapes = new Shape[MOST_SHAPES];
  private int shapeCount = 0;
  private Shape draft = new Shape();
  private final Net net = new Net();
  private final Net otherNet = new Net();
  private final Turns turns = new Turns();
  private final Plan plan = new Plan();
  private final Hearing hearing = new Hearing();
  private final Blows blows = new Blows();
  private final Ratios ratios = new Ratios();
  private final History history = new History();
  private final Parts parts = new Parts();
  private final Shelves shelves = new Shelves();

  public PlatesSing() {
  }

  // ---- shapes

  public int feed(int n, int v) {
    if (!within(n, 1, 4)) return BAD;
    if (tape.length + n > Tape.MOST_BYTES) return FULL;
    tape.add(n, v);
    return tape.length;
  }

  public int shape() {
    int fault = tape.read(draft);
    if (fault >= 0) {
      tape.length = 0;
      return -100 - fault;
    }
    if (isFullFor(draft.pieces)) return FULL;
    tape.length = 0;
    return addDraft();
  }

  public int of(int shape, int what) {
    Shape s = shapeAt(shape);
    if (s == null) return VOID;
    if (what == 0) return s.corners;
    if (what == 1) return s.pieces;
    if (what == 2) return s.toneCount();
    if (what < 10 || what % 10 >= s.corners) return VOID;
    switch (what / 10) {
      case 1: return s.heavy[what % 10];
      case 2: return s.pad[what % 10];
      case 3: return s.weight[what % 10];
      case 4: return s.held[what % 10];
      default: return VOID;
    }
  }

  public int piece(int shape, int a, int b, int what) {
    Shape s = shapeAt(shape);
    if (!isCorner(s, a) || !isCorner(s, b) || !within(what, 0, 2)) return BAD;
    int k = s.pieceBetween(a, b);
    if (k < 0) return NOT;
    if (what == 0) return s.first + k;
    return what == 1 ? s.stiff[k] : s.crack[k];
  }

  public int put(int shape, int corner, int what, int v) {
    Shape s = shapeAt(shape);
    if (!isCorner(s, corner) || !within(what, Shape.PAD, Shape.HELD)) return BAD;
    if (!within(v, 0, what == Shape.HELD ? 1 : 9)) return BAD;
    return change(s, what, corner, v);
  }

  public int crack(int shape, int a, int b, int c) {
    Shape s = shapeAt(shape);
    if (!isCorner(s, a) || !isCorner(s, b) || !within(c, 0, 9)) return BAD;
    int k = s.pieceBetween(a, b);
    if (k < 0) return NOT;
    if (c > s.stiff[k]) return BAD;
    return change(s, Shape.PIECE, k, Shape.packed(s.stiff[k], c)) % 10;
  }

  public int stroke(int shape, int a, int b) {
    Shape s = shapeAt(shape);
    if (!isCorner(s, a) || b != -1 && !isCorner(s, b)) return BAD;
    if (b == -1) {
      if (s.heavy[a] <= 1) return STATE;
      change(s, Shape.HEAVY, a, s.heavy[a] - 1);
      return s.heavy[a];
    }
    int k = s.pieceBetween(a, b);
    if (k < 0) return NOT;
    int stiff = s.stiff[k] - 1;
    if (stiff < 1) return STATE;
    change(s, Shape.PIECE, k, Shape.packed(stiff, Math.min(s.crack[k], stiff)));
    return stiff;
  }

  // ---- tones

  public int below(int shape, int mark, int what) {
    Shape s = shapeAt(shape);
    if (s == null || !isMark(mark) || !within(what, 0, 1)) return BAD;
    net.load(s);
    return what == 0 ? net.tonesUnder(mark / 10, mark % 10) : net.tonesAt(mark / 10, mark % 10);
  }

  public long sums(int shape, int mark, int k) {
    Shape s = shapeAt(shape);
    if (s == null || !isMark(mark) || !within(k, 0, s.toneCount())) return NO_LONG;
    net.load(s);
    net.sumMinors(mark / 10, mark % 10);
    return net.minors[k];
  }

  public int shut(int shape, int i, int q) {
    Shape s = shapeAt(shape);
    if (!isTone(s, i, q)) return BAD;
    net.load(s);
    return net.tone(i, q);
  }

  public int still(int shape, int corner, int mark) {
    Shape s = shapeAt(shape);
    if (!isCorner(s, corner) || !isMark(mark) || s.held[corner] != 0) return BAD;
    net.load(s);
    int free = net.tonesAt(mark / 10, mark % 10);
    net.held[corner] = 1;
    return free > 0 && net.tonesAt(mark / 10, mark % 10) >= free ? 1 : 0;
  }

  public int split(int shape, int i, int q, int at) {
    Shape s = shapeAt(shape);
    if (!isTone(s, i, q) || at < 0 || at % 10 == 0 || !isCorner(s, at / 10)) return BAD;
    int corner = at / 10;
    if (s.held[corner] != 0 || s.weight[corner] != 0) return STATE;
    net.load(s);
    otherNet.load(s);
    otherNet.weigh(corner, s.heavy[corner], at % 10);
    int told = net.tone(i, q);
    int parted = 0;
    for (int j = 0; j < s.toneCount(); j++) {
      if (net.tone(j, q) == told && otherNet.tone(j, q) != told) parted++;
    }
    return parted;
  }

  public int bounds(int shape, int i, int q, int d, int what) {
    Shape s = shapeAt(shape);
    if (!isTone(s, i, q) || !within(d, 0, 8) || !within(what, 0, 1)) return BAD;
    net.loadStiffer(s, what == 0 ? -d : d);
    return net.tone(i, q);
  }

  public int led(int shape, int i, int q, int what) {
    Shape s = shapeAt(shape);
    if (!isTone(s, i, q) || !within(what, 0, 1)) return BAD;
    net.load(s);
    int whole = net.tone(i, q);
    int most = -1;
    int leader = NOT;
    for (int k = 0; k < s.pieces; k++) {
      net.link(s.low[k], s.high[k], 0);
      int fall = whole - net.tone(i, q);
      net.link(s.low[k], s.high[k], s.counting(k));
      if (fall > most) {
        most = fall;
        leader = s.first + k;
      }
    }
    return what == 0 ? leader : Math.max(most, 0);
  }

  // ---- turns, twins

  public int turnsOf(int shape) {
    Shape s = shapeAt(shape);
    if (s == null) return BAD;
    turns.seek(s, s);
    return turns.found;
  }

  public int orbit(int shape, int corner) {
    Shape s = shapeAt(shape);
    if (!isCorner(s, corner)) return BAD;
    turns.seek(s, s);
    return turns.orbits[corner];
  }

  public int table(int shape, int other) {
    Shape s = shapeAt(shape);
    Shape o = shapeAt(other);
    if (s == null || o == null) return BAD;
    turns.seek(s, o);
    return turns.found > 0 ? turns.firstFound : NOT;
  }

  public int alike(int shape, int other, int what) {
    Shape s = shapeAt(shape);
    Shape o = shapeAt(other);
    if (s == null || o == null || !within(what, 0, 1)) return BAD;
    net.load(s);
    otherNet.load(o);
    if (!net.soundsLike(otherNet)) return 0;
    if (what == 0) return 1;
    turns.seek(s, o);
    return turns.found == 0 ? 1 : 0;
  }

  // ---- strokes, plans, cracks

  public int plan(int shape, int a, int b, int often) {
    Shape s = shapeAt(shape);
    if (!isCorner(s, a) || b != -1 && !isCorner(s, b) || !within(often, 1, 3)) return BAD;
    if (plan.strokes > 0 && plan.shape != shape) return BAD;
    int field = b == -1 ? Shape.HEAVY : Shape.PIECE;
    int at = b == -1 ? a : s.pieceBetween(a, b);
    if (at < 0) return NOT;
    if (plan.hasStroke(field, at)) return BAD;
    if (plan.strokes >= MOST_TOLD) return FULL;
    plan.shape = shape;
    plan.addStroke(field, at, often);
    return plan.strokes;
  }

  public int wish(int i, int q, int v) {
    if (!within(i, 0, MOST_CORNERS - 1) || !within(q, 1, HIGHEST_BY) || !within(v, 0, HIGHEST)) return BAD;
    Shape s = planned();
    if (s == null) return STATE;
    if (i >= s.toneCount() || plan.hasWish(i, q)) return BAD;
    if (plan.wishes >= MOST_TOLD) return FULL;
    plan.addWish(i, q, v);
    return plan.wishes;
  }

  public int moved(int k, int i, int q) {
    Shape s = planned();
    if (!isTone(s, i, q) || !within(k, 0, plan.strokes - 1)) return BAD;
    net.load(s);
    if (!plan.applies(s, net, k, 1)) return STATE;
    return net.tone(i, q);
  }

  public int tune(int what) {
    if (!within(what, 0, 3)) return BAD;
    Shape s = planned();
    if (s == null || plan.wishes == 0 || plan.highestWish() >= s.toneCount()) return STATE;
    plan.search(s, net);
    if (what == 2) return plan.bestSum;
    if (what == 3) return plan.bestSize;
    if (plan.bestSum != 0) return NOT;
    return what == 0 ? plan.bestSize : plan.bestDigits;
  }

  public int forget() {
    int before = plan.strokes;
    plan.strokes = 0;
    plan.wishes = 0;
    return before;
  }

  public int hear(int v) {
    if (!within(v, 0, HIGHEST)) return BAD;
    if (hearing.told >= MOST_TOLD) return FULL;
    hearing.add(v);
    return hearing.told;
  }

  public int fits(int shape, int q, int what) {
    Shape s = shapeAt(shape);
    if (s == null || !within(q, 1, HIGHEST_BY) || !within(what, 0, 2)) return BAD;
    if (hearing.told > s.toneCount()) return BAD;
    hearing.search(s, net, q);
    if (what == 0) return hearing.fitting;
    if (hearing.fitting == 0) return NOT;
    if (what == 2) return hearing.firstCrack;
    return hearing.firstPiece < 0 ? -1 : s.first + hearing.firstPiece;
  }

  public int next(int shape, int q) {
    Shape s = shapeAt(shape);
    if (s == null || !within(q, 1, HIGHEST_BY)) return BAD;
    if (hearing.told >= s.toneCount()) return NOT;
    hearing.search(s, net, q);
    return hearing.fitting == 0 ? NOT : hearing.bestParting(s.toneCount());
  }

  public int unhear() {
    int before = hearing.told;
    hearing.told = 0;
    return before;
  }

  // ---- blows, ears

  public int damp(int v) {
    if (!within(v, 0, 500)) return BAD;
    int before = blows.damp;
    blows.damp = v;
    return before;
  }

  public int ear(int ear, int corner) {
    if (!isEar(ear) || !within(corner, -1, MOST_CORNERS - 1)) return VOID;
    int before = blows.ears[ear];
    blows.ears[ear] = corner;
    return before;
  }

  public int blow(int shape, int corner, int v, int t) {
    Shape s = shapeAt(shape);
    if (!isCorner(s, corner) || !isForce(v) || !within(t, 1, MOST_STEPS)) return BAD;
    if (s.held[corner] != 0) return STATE;
    net.load(s);
    blows.begin(net);
    blows.push(net, corner, v);
    return blows.run(net, t, 0);
  }

  public int roll(int corner, int v, int when) {
    if (!within(corner, 0, MOST_CORNERS - 1) || !isForce(v) || !within(when, 0, 99)) return BAD;
    if (blows.told >= MOST_TOLD) return FULL;
    blows.add(corner, v, when);
    return blows.told;
  }

  public int rolled(int shape, int t) {
    Shape s = shapeAt(shape);
    if (s == null || !within(t, 1, MOST_STEPS)) return BAD;
    if (blows.told == 0) return STATE;
    net.load(s);
    blows.begin(net);
    int loudest = blows.run(net, t, blows.told);
    blows.told = 0;
    return loudest;
  }

  public int heard(int ear, int k) {
    if (!isEar(ear) || !within(k, 1, blows.steps) || !blows.wasAnywhere(ear)) return VOID;
    return blows.kept(ear, k);
  }

  public int loud(int ear, int what) {
    if (!isEar(ear) || what < -1) return BAD;
    if (!blows.wasAnywhere(ear)) return STATE;
    return what == -1 ? blows.loudest(ear) : blows.diesAt(ear, what);
  }

  public int write(int ear, int shelf, int i, int n) {
    if (!isEar(ear) || !isShelf(shelf) || !within(n, 1, Shelves.MOST_ELEMENTS)) return BAD;
    if (!blows.wasAnywhere(ear)) return STATE;
    int refusal = shelves.refusesNumbers(shelf);
    if (refusal != 0) return refusal;
    if (!shelves.hasPlace(shelf, i)) return NO_PLACE;
    int written = Math.min(n, Math.min(shelves.size[shelf] - i, blows.steps));
    for (int k = 0; k < written; k++) shelves.setHeard(shelf, i + k, blows.kept(ear, k + 1));
    return written;
  }

  public int loudness(int shelf, int period) {
    if (!isShelf(shelf) || !within(period, Shelves.SHORTEST, Shelves.LONGEST)) return BAD;
    int refusal = shelves.refusesNumbers(shelf);
    if (refusal != 0) return refusal;
    return (int) Math.min(shelves.loudnessOf(shelf, period), 1999999999L);
  }

  public int strongest(int shelf) {
    if (!isShelf(shelf)) return BAD;
    int refusal = shelves.refusesNumbers(shelf);
    if (refusal != 0) return refusal;
    return shelves.size[shelf] == 0 ? NOT : shelves.strongestPeriod(shelf);
  }

  // ---- sets, joined ones

  public int ratio(int a, int b) {
    if (!within(a, 1, 9) || !within(b, 1, 9)) return BAD;
    if (ratios.told >= MOST_TOLD) return FULL;
    ratios.add(a, b);
    return ratios.told;
  }

  public int agree(int shapes, int n, int d, int what) {
    if (!within(n, 2, Ratios.MOST_IN_ORDER) || shapes >> 4 * n != 0) return BAD;
    if (!within(d, 0, 9999) || !within(what, 0, 1)) return BAD;
    for (int k = 0; k < n; k++) {
      Shape s = shapeAt(shapes >> 4 * k & 15);
      if (s == null || s.toneCount() == 0) return BAD;
      net.load(s);
      ratios.lowest[k] = net.tone(0, HIGHEST_BY);
    }
    if (ratios.told < n - 1) return STATE;
    return what == 0 ? ratios.agreeing(n, d) : ratios.fewestOut(n, d);
  }

  public int unratio() {
    int before = ratios.told;
    ratios.told = 0;
    return before;
  }

  public int join(int shape, int other, int ab, int v) {
    Shape s = shapeAt(shape);
    Shape o = shapeAt(other);
    if (ab < 0 || !isCorner(s, ab / 10) || !isCorner(o, ab % 10) || !within(v, 1, 9)) return BAD;
    if (s.corners + o.corners > MOST_CORNERS) return BAD;
    if (isFullFor(s.pieces + o.pieces + 1)) return FULL;
    draft.clear();
    draft.addAllOf(s);
    draft.addAllOf(o);
    draft.addPiece(ab / 10, s.corners + ab % 10, v);
    draft.one = shape;
    draft.other = other;
    return addDraft();
  }

  public int law(int shape, int mark) {
    Shape s = shapeAt(shape);
    if (s == null || !isMark(mark)) return BAD;
    Shape one = shapeAt(s.one);
    Shape other = shapeAt(s.other);
    if (one == null || other == null) return NOT;
    int missing = under(one, mark) + under(other, mark) - under(s, mark);
    return missing == 0 || missing == 1 ? 1 : 0;
  }

  // ---- undone, digest

  public int undo() {
    if (history.done == 0) return STATE;
    history.takeBack();
    return history.done;
  }

  public int redo() {
    if (history.undone == 0) return STATE;
    history.bringBack();
    return history.undone;
  }

  public int digest() {
    int h = 7;
    for (int n = 0; n < shapeCount; n++) {
      Shape s = shapeAt(n);
      if (s != null) h = s.addedTo(h);
    }
    return h;
  }

  // ---- acts, shelves

  public int body(int kind) {
    if (!isKind(kind)) return BAD;
    return parts.count >= MOST_BODIES ? FULL : parts.add(kind, null);
  }

  public int act(int body, int act, int x) {
    parts.ran = 0;
    if (!isBody(body) || !within(act, 0, 3)) return 0;
    return parts.perform(body, act, x);
  }

  public int trace(int i) {
    return within(i, 0, Math.min(parts.ran, Parts.MOST_TRACED) - 1) ? parts.traced[i] : BAD;
  }

  public int keep(int shelf, int body) {
    if (!isShelf(shelf) || body != -1 && !isBody(body)) return BAD;
    shelves.hold(shelf, body);
    return 1;
  }

  public int row(int shelf, int sort, int n) {
    if (!isShelf(shelf) || !within(sort, 0, 4) || n > Shelves.MOST_ELEMENTS) return BAD;
    if (n < 0) return SIZE_BELOW_0;
    shelves.holdRow(shelf, sort, n);
    return 1;
  }

  public int place(int shelf, int i, long v) {
    if (!isShelf(shelf)) return BAD;
    int refusal = shelves.refusesRow(shelf);
    if (refusal != 0) return refusal;
    if (!shelves.hasPlace(shelf, i)) return NO_PLACE;
    shelves.set(shelf, i, v);
    return 1;
  }

  public long element(int shelf, int i) {
    if (!isShelf(shelf) || shelves.refusesRow(shelf) != 0 || !shelves.hasPlace(shelf, i)) return NO_LONG;
    return shelves.elements[shelf][i];
  }

  public int shift(int shelf, int i, int other, int j, int n) {
    if (!isShelf(shelf) || !isShelf(other)) return BAD;
    int sort = shelves.sort[shelf];
    if (sort == Shelves.EMPTY || shelves.sort[other] == Shelves.EMPTY) return NOTHING_THERE;
    if (sort == Shelves.BODY || sort != shelves.sort[other]) return OTHER_KIND;
    if (!shelves.hasSpan(shelf, i, n) || !shelves.hasSpan(other, j, n)) return NO_PLACE;
    System.arraycopy(shelves.elements[shelf], i, shelves.elements[other], j, n);
    return n;
  }

  public int taken(int shelf, int k) {
    if (!isShelf(shelf) || !isKind(k)) return BAD;
    if (shelves.sort[shelf] == Shelves.EMPTY) return NOTHING_THERE;
    int body = shelves.body[shelf];
    if (shelves.sort[shelf] != Shelves.BODY || !isBody(body)) return OTHER_KIND;
    int kind = parts.kind[body];
    return Parts.isUnder(kind, k) ? kind : OTHER_KIND;
  }

  public int count(int what) {
    switch (what) {
      case 0: return shapeCount;
      case 1: return parts.count;
      case 2: return tape.length;
      case 3: return history.done;
      case 4: return parts.ran;
      case 5: return blows.steps;
      default: return BAD;
    }
  }

  // ---- what the calls share

  private static boolean within(int v, int least, int greatest) {
    return v >= least && v <= greatest;
  }

  private static boolean isMark(int mark) {
    return within(mark, 1, 10 * HIGHEST + HIGHEST_BY) && mark % 10 != 0;
  }

  private static boolean isForce(int v) {
    return within(v, -99, 99);
  }

  private static boolean isEar(int ear) {
    return within(ear, 0, Blows.EARS - 1);
  }

  private static boolean isShelf(int shelf) {
    return within(shelf, 0, Shelves.SHELVES - 1);
  }

  private static boolean isKind(int kind) {
    return within(kind, 0, 5);
  }

  private boolean isBody(int body) {
    return within(body, 0, parts.count - 1);
  }

  private static boolean isCorner(Shape s, int corner) {
    return s != null && within(corner, 0, s.corners - 1);
  }

  private static boolean isTone(Shape s, int i, int q) {
    return s != null && within(i, 0, s.toneCount() - 1) && within(q, 1, HIGHEST_BY);
  }

  private Shape shapeAt(int n) {
    return within(n, 0, shapeCount - 1) ? shapes[n] : null;
  }

  /** The SHAPE of the list of STROKES; null as long as none is told. */
  private Shape planned() {
    return plan.strokes > 0 ? shapeAt(plan.shape) : null;
  }

  private boolean isFullFor(int pieces) {
    return shapeCount >= MOST_SHAPES || parts.count + pieces > MOST_BODIES;
  }

  private int addDraft() {
    draft.first = parts.count;
    for (int k = 0; k < draft.pieces; k++) parts.add(Parts.PIECE, draft);
    shapes[shapeCount] = draft;
    shapeCount++;
    draft = new Shape();
    return shapeCount - 1;
  }

  /** Changes a shape so that it can be undone; answers what was there. */
  private int change(Shape s, int field, int at, int value) {
    int before = s.get(field, at);
    if (before != value) {
      s.set(field, at, value);
      history.add(s, field, at, before, value);
    }
    return before;
  }

  private int under(Shape s, int mark) {
    net.load(s);
    return net.tonesUnder(mark / 10, mark % 10);
  }

  /** The bytes that were fed, and the reading of them. */
  private static final class Tape {
    static final int MOST_BYTES = 120;

    final int[] bytes = new int[MOST_BYTES];
    int length = 0;
    int at = 0;

    void add(int n, int v) {
      for (int k = 0; k < n && length < MOST_BYTES; k++) {
        bytes[length] = v >>> 8 * k & 255;
        length++;
      }
    }

    /** Reads the text into a shape: -1, or the FAULT, which is where the reading came to stand. */
    int read(Shape into) {
      into.clear();
      at = 0;
      boolean good = readCorners(into);
      for (int part = 0; good && at < length && part < MOST_BYTES; part++) good = readPart(into);
      return good ? -1 : at;
    }

    private boolean readCorners(Shape into) {
      if (peek() != 'c') return false;
      at++;
      for (int k = 0; k < MOST_CORNERS && digit() > 0; k++) {
        into.heavy[k] = digit();
        into.corners = k + 1;
        at++;
      }
      return into.corners > 0;
    }

    private boolean readPart(Shape into) {
      if (peek() != ';') return false;
      at++;
      int letter = peek();
      if (letter != 'p' && letter != 's' && letter != 'h' && letter != 'w') return false;
      at++;
      if (letter == 'p') return readPiece(into);
      if (letter == 'h') return readHold(into);
      return readNumber(into, letter == 's' ? into.pad : into.weight);
    }

    private boolean readPiece(Shape into) {
      int a = corner(into);
      if (a < 0) return false;
      at++;
      int b = corner(into);
      if (b < 0 || b == a || into.pieceBetween(a, b) >= 0) return false;
      at++;
      if (digit() == 0) return false;
      into.addPiece(a, b, digit());
      at++;
      return true;
    }

    private boolean readHold(Shape into) {
      int c = corner(into);
      if (c < 0 || into.held[c] != 0) return false;
      at++;
      into.held[c] = 1;
      return true;
    }

    private boolean readNumber(Shape into, int[] field) {
      int c = corner(into);
      if (c < 0 || field[c] != 0) return false;
      at++;
      if (digit() == 0) return false;
      field[c] = digit();
      at++;
      return true;
    }

    private int peek() {
      return at < length && at < MOST_BYTES ? bytes[at] : -1;
    }

    private int digit() {
      int sign = peek();
      return within(sign, '1', '9') ? sign - '0' : 0;
    }

    private int corner(Shape of) {
      int c = peek() - 'a';
      return within(c, 0, of.corners - 1) ? c : -1;
    }
  }

  /** Corners and pieces as they were told; piece k of a shape is the BODY first + k. */
  private static final class Shape {
    static final int PAD = 0, WEIGHT = 1, HELD = 2, HEAVY = 3, PIECE = 4;

    int corners = 0;
    final int[] heavy = new int[MOST_CORNERS];
    final int[] pad = new int[MOST_CORNERS];
    final int[] weight = new int[MOST_CORNERS];
    final int[] held = new int[MOST_CORNERS];
    int first = 0;
    int pieces = 0;
    final int[] low = new int[MOST_PIECES];
    final int[] high = new int[MOST_PIECES];
    final int[] stiff = new int[MOST_PIECES];
    final int[] crack = new int[MOST_PIECES];
    int one = -1;
    int other = -1;

    void clear() {
      corners = 0;
      pieces = 0;
      Arrays.fill(pad, 0);
      Arrays.fill(weight, 0);
      Arrays.fill(held, 0);
      one = -1;
      other = -1;
    }

    int toneCount() {
      int free = 0;
      for (int i = 0; i < corners; i++) if (held[i] == 0) free++;
      return free;
    }

    int pieceBetween(int a, int b) {
      for (int k = 0; k < pieces; k++) {
        if (low[k] == Math.min(a, b) && high[k] == Math.max(a, b)) return k;
      }
      return -1;
    }

    int counting(int k) {
      return stiff[k] - crack[k];
    }

    void addPiece(int a, int b, int stiffness) {
      if (pieces >= MOST_PIECES) return;
      low[pieces] = Math.min(a, b);
      high[pieces] = Math.max(a, b);
      stiff[pieces] = stiffness;
      crack[pieces] = 0;
      pieces++;
    }

    void addAllOf(Shape s) {
      int before = corners;
      for (int i = 0; i < s.corners && corners < MOST_CORNERS; i++) {
        heavy[corners] = s.heavy[i];
        pad[corners] = s.pad[i];
        weight[corners] = s.weight[i];
        held[corners] = s.held[i];
        corners++;
      }
      for (int k = 0; k < s.pieces && pieces < MOST_PIECES; k++) {
        addPiece(before + s.low[k], before + s.high[k], s.stiff[k]);
        crack[pieces - 1] = s.crack[k];
      }
    }

    /** A piece's STIFF and crack as one value, as a STROKE may change both at once. */
    static int packed(int stiffness, int c) {
      return 10 * stiffness + c;
    }

    int get(int field, int at) {
      switch (field) {
        case PAD: return pad[at];
        case WEIGHT: return weight[at];
        case HELD: return held[at];
        case HEAVY: return heavy[at];
        default: return packed(stiff[at], crack[at]);
      }
    }

    void set(int field, int at, int value) {
      switch (field) {
        case PAD: pad[at] = value; break;
        case WEIGHT: weight[at] = value; break;
        case HELD: held[at] = value; break;
        case HEAVY: heavy[at] = value; break;
        default:
          stiff[at] = value / 10;
          crack[at] = value % 10;
      }
    }

    int addedTo(int digest) {
      int h = digest;
      for (int i = 0; i < corners; i++) {
        h = (((h * 31 + heavy[i]) * 31 + pad[i]) * 31 + weight[i]) * 31 + held[i];
      }
      for (int k = 0; k < pieces; k++) {
        h = (((h * 31 + low[k]) * 31 + high[k]) * 31 + stiff[k]) * 31 + crack[k];
      }
      return h;
    }
  }

  /** What of a shape makes its sound; the questions "what if" change it here and leave the shape alone. */
  private static final class Net {
    int corners = 0;
    final int[] mass = new int[MOST_CORNERS];
    final int[] pad = new int[MOST_CORNERS];
    final int[] held = new int[MOST_CORNERS];
    final int[] links = new int[MOST_CORNERS * MOST_CORNERS];
    final long[] minors = new long[MOST_CORNERS + 1];
    private final int[] free = new int[MOST_CORNERS];
    private int rows = 0;
    private final long[] matrix = new long[MOST_CORNERS * MOST_CORNERS];
    private final long[] factor = new long[MOST_CORNERS + 1];
    private final long[] vector = new long[MOST_CORNERS];
    private final long[] image = new long[MOST_CORNERS];

    void load(Shape s) {
      loadStiffer(s, 0);
    }

    /** Every STIFF is more by d and every HEAVY less by it; below 0 it is the other way. */
    void loadStiffer(Shape s, int d) {
      corners = s.corners;
      Arrays.fill(links, 0);
      for (int i = 0; i < corners; i++) {
        weigh(i, oneToNine(s.heavy[i] - d), s.weight[i]);
        pad[i] = s.pad[i];
        held[i] = s.held[i];
      }
      for (int k = 0; k < s.pieces; k++) {
        int stiff = oneToNine(s.stiff[k] + d);
        link(s.low[k], s.high[k], stiff - Math.min(s.crack[k], stiff));
      }
    }

    private static int oneToNine(int v) {
      return Math.max(1, Math.min(9, v));
    }

    void weigh(int corner, int heavy, int weight) {
      mass[corner] = Math.min(9, heavy + weight);
    }

    void link(int a, int b, int counts) {
      links[MOST_CORNERS * a + b] = counts;
      links[MOST_CORNERS * b + a] = counts;
    }

    int linkOf(int a, int b) {
      return links[MOST_CORNERS * a + b];
    }

    private void fillMatrix(int p, int q) {
      rows = 0;
      for (int i = 0; i < corners; i++) {
        if (held[i] != 0) continue;
        free[rows] = i;
        int pull = pad[i];
        for (int j = 0; j < corners; j++) pull += links[MOST_CORNERS * i + j];
        for (int r = 0; r < rows; r++) {
          long link = -q * links[MOST_CORNERS * i + free[r]];
          matrix[MOST_CORNERS * r + rows] = link;
          matrix[MOST_CORNERS * rows + r] = link;
        }
        matrix[MOST_CORNERS * rows + rows] = q * pull - p * mass[i];
        rows++;
      }
    }

    /**
     * E(0) .. E(rows) come to minors. They are the coefficients of det(t + A), which Berkowitz' way builds row by
     * row without a division, so that wrapping longs can't spoil them.
     */
    void sumMinors(int p, int q) {
      fillMatrix(p, q);
      minors[0] = 1;
      for (int r = 0; r < rows; r++) {
        fillFactor(r);
        for (int k = r + 1; k > 0; k--) {
          long sum = 0;
          for (int j = 0; j <= k && j <= r; j++) sum += factor[k - j] * minors[j];
          minors[k] = sum;
        }
      }
    }

    /**
     * What row r brings to the coefficients of the r rows ahead of it: it needs v A v, v A A v, .. and, as A is
     * symmetric, one multiplication serves two of these.
     */
    private void fillFactor(int r) {
      int row = MOST_CORNERS * r;
      factor[0] = 1;
      factor[1] = matrix[row + r];
      for (int i = 0; i < r; i++) vector[i] = matrix[row + i];
      for (int k = 2; k <= r + 1; k++) {
        boolean odd = k % 2 != 0;
        for (int i = 0; i < r && odd; i++) {
          image[i] = 0;
          for (int j = 0; j < r; j++) image[i] += matrix[MOST_CORNERS * i + j] * vector[j];
        }
        long sum = 0;
        for (int i = 0; i < r; i++) sum += vector[i] * (odd ? image[i] : vector[i]);
        factor[k] = odd ? sum : -sum;
        for (int i = 0; i < r && odd; i++) vector[i] = image[i];
      }
    }

    /** BELOW. */
    int tonesUnder(int p, int q) {
      sumMinors(p, q);
      int changes = 0;
      boolean negative = false;
      for (int k = 1; k <= rows; k++) {
        if (minors[k] != 0 && minors[k] < 0 != negative) {
          changes++;
          negative = !negative;
        }
      }
      return changes;
    }

    /** AT. */
    int tonesAt(int p, int q) {
      sumMinors(p, q);
      int zeros = 0;
      for (int k = rows; k > 0 && minors[k] == 0; k--) zeros++;
      return zeros;
    }

    /** SHUT. BELOW never falls as p rises, and is 0 at 0, so halving finds what a walk over all p would. */
    int tone(int i, int q) {
      int p = 0;
      for (int step = 64; step > 0; step /= 2) {
        if (p + step <= HIGHEST && tonesUnder(p + step, q) <= i) p += step;
      }
      return p;
    }

    boolean soundsLike(Net other) {
      for (int p = 0; p <= 6; p++) {
        sumMinors(p, 1);
        other.sumMinors(p, 1);
        if (rows != other.rows) return false;
        if (minors[rows] * other.divisor() != other.minors[rows] * divisor()) return false;
      }
      return true;
    }

    private long divisor() {
      long product = 1;
      for (int r = 0; r < rows; r++) product *= mass[free[r]];
      return product;
    }
  }

  /** The orders of corners that bring one shape upon another one (or upon itself). */
  private static final class Turns {
    int found = 0;
    int firstFound = 0;
    final int[] orbits = new int[MOST_CORNERS];
    private final int[] order = new int[MOST_CORNERS];
    private final Net from = new Net();
    private final Net to = new Net();

    void seek(Shape s, Shape o) {
      found = 0;
      firstFound = 0;
      Arrays.fill(orbits, 0);
      if (s.corners != o.corners) return;
      from.load(s);
      to.load(o);
      extend(s, o, 0);
    }

    private void extend(Shape s, Shape o, int k) {
      if (k >= s.corners || k >= MOST_CORNERS) {
        noteFound(k);
        return;
      }
      for (int c = 0; c < o.corners; c++) {
        if (isLike(s, k, o, c) && keepsPieces(k, c)) {
          order[k] = c;
          extend(s, o, k + 1);
        }
      }
    }

    private static boolean isLike(Shape s, int a, Shape o, int b) {
      return s.heavy[a] == o.heavy[b] && s.pad[a] == o.pad[b] && s.weight[a] == o.weight[b] && s.held[a] == o.held[b];
    }

    private boolean keepsPieces(int k, int c) {
      for (int j = 0; j < k; j++) {
        if (order[j] == c || from.linkOf(j, k) != to.linkOf(order[j], c)) return false;
      }
      return true;
    }

    private void noteFound(int length) {
      int digits = 0;
      for (int j = 0; j < length; j++) {
        digits = 10 * digits + order[j];
        orbits[j] |= 1 << order[j];
      }
      if (found == 0) firstFound = digits;
      found++;
    }
  }

  /** The told STROKES and WISHES, and the search for a set of STROKES. */
  private static final class Plan {
    private static final int MOST_TOGETHER = 4;

    int shape = 0;
    int strokes = 0;
    private final int[] field = new int[MOST_TOLD];
    private final int[] at = new int[MOST_TOLD];
    private final int[] often = new int[MOST_TOLD];
    int wishes = 0;
    private final int[] tone = new int[MOST_TOLD];
    private final int[] by = new int[MOST_TOLD];
    private final int[] value = new int[MOST_TOLD];
    private final int[] used = new int[MOST_TOLD];
    int bestSum = 0;
    int bestSize = 0;
    int bestDigits = 0;

    boolean hasStroke(int strokeField, int strokeAt) {
      for (int k = 0; k < strokes; k++) if (field[k] == strokeField && at[k] == strokeAt) return true;
      return false;
    }

    void addStroke(int strokeField, int strokeAt, int strokeOften) {
      if (strokes >= MOST_TOLD) return;
      field[strokes] = strokeField;
      at[strokes] = strokeAt;
      often[strokes] = strokeOften;
      strokes++;
    }

    boolean hasWish(int i, int q) {
      for (int w = 0; w < wishes; w++) if (tone[w] == i && by[w] == q) return true;
      return false;
    }

    void addWish(int i, int q, int v) {
      if (wishes >= MOST_TOLD) return;
      tone[wishes] = i;
      by[wishes] = q;
      value[wishes] = v;
      wishes++;
    }

    int highestWish() {
      int highest = -1;
      for (int w = 0; w < wishes; w++) highest = Math.max(highest, tone[w]);
      return highest;
    }

    /** Strokes a net so often by STROKE k: whether nothing falls below 1. */
    boolean applies(Shape s, Net net, int k, int times) {
      int place = at[k];
      if (field[k] == Shape.HEAVY) {
        net.weigh(place, s.heavy[place] - times, s.weight[place]);
        return s.heavy[place] > times;
      }
      int stiff = s.stiff[place] - times;
      net.link(s.low[place], s.high[place], stiff - Math.min(s.crack[place], stiff));
      return stiff >= 1;
    }

    /**
     * Smaller sets come first, and of one size the lesser digits, so the first set with the least sum is the one
     * that is asked for, by WISHES that come true (sum 0) as well as by the closest ones.
     */
    void search(Shape s, Net net) {
      bestSum = GREATEST_INT;
      bestSize = 0;
      bestDigits = 0;
      Arrays.fill(used, 0);
      for (int size = 0; size <= MOST_TOGETHER; size++) extend(s, net, size, size, 0, 0);
    }

    private void extend(Shape s, Net net, int size, int left, int from, int digits) {
      if (bestSum == 0) return;
      if (left <= 0) {
        compare(s, net, size, digits);
        return;
      }
      for (int k = from; k < strokes; k++) {
        if (used[k] < often[k]) {
          used[k]++;
          extend(s, net, size, left - 1, k, 10 * digits + k + 1);
          used[k]--;
        }
      }
    }

    private void compare(Shape s, Net net, int size, int digits) {
      net.load(s);
      for (int k = 0; k < strokes; k++) {
        if (used[k] > 0 && !applies(s, net, k, used[k])) return;
      }
      int sum = 0;
      for (int w = 0; w < wishes && sum < bestSum; w++) sum += Math.abs(net.tone(tone[w], by[w]) - value[w]);
      if (sum < bestSum) {
        bestSum = sum;
        bestSize = size;
        bestDigits = digits;
      }
    }
  }

  /** The SHUTS that were heard, and the cracks that would sound so. */
  private static final class Hearing {
    int told = 0;
    private final int[] heard = new int[MOST_TOLD];
    int fitting = 0;
    int firstPiece = -1;
    int firstCrack = 0;
    private final int[] alike = new int[MOST_CORNERS * (HIGHEST + 1)];

    void add(int v) {
      if (told >= MOST_TOLD) return;
      heard[told] = v;
      told++;
    }

    void search(Shape s, Net net, int q) {
      fitting = 0;
      firstPiece = -1;
      firstCrack = 0;
      Arrays.fill(alike, 0);
      net.load(s);
      for (int k = 0; k < s.pieces; k++) net.link(s.low[k], s.high[k], s.stiff[k]);
      int tones = s.toneCount();
      tryNet(net, q, tones, -1, 0);
      for (int k = 0; k < s.pieces; k++) {
        for (int c = 1; c <= s.stiff[k]; c++) {
          net.link(s.low[k], s.high[k], s.stiff[k] - c);
          tryNet(net, q, tones, k, c);
        }
        net.link(s.low[k], s.high[k], s.stiff[k]);
      }
    }

    private void tryNet(Net net, int q, int tones, int piece, int crack) {
      for (int i = 0; i < told; i++) if (net.tone(i, q) != heard[i]) return;
      if (fitting == 0) {
        firstPiece = piece;
        firstCrack = crack;
      }
      fitting++;
      for (int i = told; i < tones; i++) alike[(HIGHEST + 1) * i + net.tone(i, q)]++;
    }

    int bestParting(int tones) {
      int best = told;
      int least = GREATEST_INT;
      for (int i = told; i < tones; i++) {
        int greatest = 0;
        for (int p = 0; p <= HIGHEST; p++) greatest = Math.max(greatest, alike[(HIGHEST + 1) * i + p]);
        if (greatest < least) {
          least = greatest;
          best = i;
        }
      }
      return best;
    }
  }

  /** BLOWS step by step, the ears, and what they kept of the latest one. */
  private static final class Blows {
    static final int EARS = 4;

    int damp = 0;
    final int[] ears = {-1, -1, -1, -1};
    int steps = 0;
    private final int[] earsThen = {-1, -1, -1, -1};
    private final int[] rows = new int[EARS * MOST_STEPS];
    private final int[] x = new int[MOST_CORNERS];
    private final int[] u = new int[MOST_CORNERS];
    int told = 0;
    private final int[] corner = new int[MOST_TOLD];
    private final int[] force = new int[MOST_TOLD];
    private final int[] when = new int[MOST_TOLD];

    void add(int c, int v, int step) {
      if (told >= MOST_TOLD) return;
      corner[told] = c;
      force[told] = v;
      when[told] = step;
      told++;
    }

    void begin(Net net) {
      Arrays.fill(x, 0);
      Arrays.fill(u, 0);
      for (int e = 0; e < EARS; e++) earsThen[e] = ears[e] < net.corners ? ears[e] : -1;
    }

    void push(Net net, int c, int v) {
      if (c < net.corners && net.held[c] == 0) u[c] += 64 * v;
    }

    /** Runs t steps with the first so many BLOWS of the list: the greatest size of any X. */
    int run(Net net, int t, int rolling) {
      int loudest = 0;
      steps = t;
      for (int step = 0; step < t && step < MOST_STEPS; step++) {
        for (int k = 0; k < rolling; k++) if (when[k] == step) push(net, corner[k], force[k]);
        for (int i = 0; i < net.corners; i++) if (net.held[i] == 0) pull(net, i);
        for (int i = 0; i < net.corners; i++) {
          x[i] += u[i] / 8;
          loudest = Math.max(loudest, Math.abs(x[i]));
        }
        for (int e = 0; e < EARS; e++) if (earsThen[e] >= 0) rows[MOST_STEPS * e + step] = x[earsThen[e]];
      }
      return loudest;
    }

    private void pull(Net net, int i) {
      int sum = net.pad[i] * x[i];
      for (int j = 0; j < net.corners; j++) sum += net.linkOf(i, j) * (x[i] - x[j]);
      u[i] -= sum / Math.max(1, net.mass[i]) / 8;
      u[i] -= u[i] * damp / 1000;
    }

    boolean wasAnywhere(int ear) {
      return steps > 0 && earsThen[ear] >= 0;
    }

    int kept(int ear, int step) {
      return rows[MOST_STEPS * ear + step - 1];
    }

    int loudest(int ear) {
      int most = 0;
      for (int k = 1; k <= steps; k++) most = Math.max(most, Math.abs(kept(ear, k)));
      return most;
    }

    int diesAt(int ear, int most) {
      int first = steps;
      for (int k = steps; k > 0 && Math.abs(kept(ear, k)) <= most; k--) first = k;
      return first;
    }
  }

  /** The told RATIOS, and the lowest tones of the shapes that are held against them. */
  private static final class Ratios {
    static final int MOST_IN_ORDER = 7;

    int told = 0;
    private final int[] a = new int[MOST_TOLD];
    private final int[] b = new int[MOST_TOLD];
    final int[] lowest = new int[MOST_IN_ORDER];

    void add(int left, int right) {
      if (told >= MOST_TOLD) return;
      a[told] = left;
      b[told] = right;
      told++;
    }

    private boolean fit(int k, int one, int next, int d) {
      return Math.abs(lowest[one] * b[k] - lowest[next] * a[k]) <= d;
    }

    int agreeing(int n, int d) {
      int found = 0;
      for (int k = 0; k + 1 < n; k++) if (fit(k, k, k + 1, d)) found++;
      return found;
    }

    int fewestOut(int n, int d) {
      int best = (1 << n) - 2;
      for (int out = best; out >= 0; out--) {
        if (Integer.bitCount(out) <= Integer.bitCount(best) && allFit(n, d, out)) best = out;
      }
      return best;
    }

    private boolean allFit(int n, int d, int out) {
      int left = 0;
      int latest = -1;
      for (int k = 0; k < n; k++) {
        if ((out >> k & 1) != 0) continue;
        if (latest >= 0 && !fit(left - 1, latest, k, d)) return false;
        latest = k;
        left++;
      }
      return true;
    }
  }

  /** The latest changes of shapes: those done come first, behind them those that were undone. */
  private static final class History {
    private static final int MOST_KEPT = 40;

    int done = 0;
    int undone = 0;
    private final Shape[] shape = new Shape[MOST_KEPT];
    private final int[] field = new int[MOST_KEPT];
    private final int[] at = new int[MOST_KEPT];
    private final int[] before = new int[MOST_KEPT];
    private final int[] after = new int[MOST_KEPT];

    void add(Shape changed, int changedField, int changedAt, int was, int is) {
      if (done >= MOST_KEPT) dropOldest();
      shape[done] = changed;
      field[done] = changedField;
      at[done] = changedAt;
      before[done] = was;
      after[done] = is;
      done++;
      undone = 0;
    }

    private void dropOldest() {
      for (int k = 1; k < MOST_KEPT; k++) {
        shape[k - 1] = shape[k];
        field[k - 1] = field[k];
        at[k - 1] = at[k];
        before[k - 1] = before[k];
        after[k - 1] = after[k];
      }
      done = MOST_KEPT - 1;
    }

    void takeBack() {
      if (done <= 0) return;
      done--;
      undone++;
      if (shape[done] != null) shape[done].set(field[done], at[done], before[done]);
    }

    void bringBack() {
      if (undone <= 0 || done >= MOST_KEPT) return;
      if (shape[done] != null) shape[done].set(field[done], at[done], after[done]);
      done++;
      undone--;
    }
  }

  /** The BODIES, their acts and the trace. */
  private static final class Parts {
    static final int PIECE = 1, MOST_TRACED = 24;

    private static final int STIFFENS = 0, WEIGHS = 1, SOUNDS = 2, TELLS = 3, MOST_OPEN = 40;
    private static final int[] KIND_ABOVE = {-1, 0, 1, 0, 1, 4};
    /** By KIND and act; 0: it has none of its own. */
    private static final int[] ACTS = {
      1, 10, 11, 2,
      20, 0, 0, 0,
      0, 31, 30, 0,
      0, 40, 0, 0,
      50, 0, 0, 51,
      0, 0, 60, 61,
    };

    int count = 0;
    final int[] kind = new int[MOST_BODIES];
    private final Shape[] home = new Shape[MOST_BODIES];
    int ran = 0;
    final int[] traced = new int[MOST_TRACED];

    int add(int bodyKind, Shape of) {
      if (count >= MOST_BODIES) return FULL;
      kind[count] = bodyKind;
      home[count] = of;
      count++;
      return count - 1;
    }

    static boolean isUnder(int kind, int above) {
      int k = kind;
      for (int up = 0; up < KIND_ABOVE.length && k >= 0; up++) {
        if (k == above) return true;
        k = KIND_ABOVE[k];
      }
      return false;
    }

    private int stiffOf(int n) {
      Shape s = home[n];
      if (s == null) return 0;
      return within(n - s.first, 0, s.pieces - 1) ? s.stiff[n - s.first] : 0;
    }

    int perform(int n, int act, int x) {
      return run(n, kind[n], act, x, 0);
    }

    /** Runs the act of body n that its KIND from, or the next one above, has. */
    private int run(int n, int from, int act, int x, int open) {
      int k = from;
      for (int up = 0; up < KIND_ABOVE.length && k > 0 && ACTS[4 * k + act] == 0; up++) k = KIND_ABOVE[k];
      if (k < 0 || open > MOST_OPEN) return 0;
      int above = KIND_ABOVE[k];
      int own = kind[n];
      int deeper = open + 1;
      int first;
      begin(ACTS[4 * k + act]);
      switch (ACTS[4 * k + act]) {
        case 1: return x + stiffOf(n);
        case 2:
          first = run(n, own, WEIGHS, x, deeper);
          return first + run(n, own, SOUNDS, 1, deeper);
        case 10: return run(n, own, STIFFENS, x, deeper) * 2;
        case 11: return x ^ n;
        case 20: return run(n, above, STIFFENS, x, deeper) - 1;
        case 30: return run(n, above, SOUNDS, x, deeper) * 5;
        case 31:
          first = run(n, above, WEIGHS, x, deeper);
          return first + run(n, own, STIFFENS, 2, deeper);
        case 40: return -run(n, above, WEIGHS, x, deeper);
        case 50: return run(n, above, STIFFENS, x, deeper) ^ 3;
        case 51: return run(n, above, TELLS, x + 1, deeper);
        case 60:
          first = run(n, above, SOUNDS, x, deeper);
          return first + run(n, own, WEIGHS, 1, deeper);
        case 61: return run(n, above, TELLS, x, deeper) * 2;
        default: return 0;
      }
    }

    private void begin(int bodyOfAct) {
      if (ran < MOST_TRACED) traced[ran] = bodyOfAct;
      ran++;
    }
  }

  /** The shelves; a row's elements lie as longs, cut to its sort as they come in. */
  private static final class Shelves {
    static final int SHELVES = 6, MOST_ELEMENTS = 60, EMPTY = -2, BODY = -1, SHORTEST = 2, LONGEST = 60;

    private static final int BYTES = 0, SHORTS = 1, INTS = 2, LONGS = 3;

    final int[] sort = {EMPTY, EMPTY, EMPTY, EMPTY, EMPTY, EMPTY};
    final int[] size = new int[SHELVES];
    final int[] body = new int[SHELVES];
    final long[][] elements = new long[SHELVES][MOST_ELEMENTS];

    void hold(int shelf, int held) {
      sort[shelf] = held < 0 ? EMPTY : BODY;
      body[shelf] = Math.max(held, 0);
      size[shelf] = 0;
    }

    void holdRow(int shelf, int rowSort, int n) {
      sort[shelf] = rowSort;
      size[shelf] = n;
      Arrays.fill(elements[shelf], 0);
    }

    int refusesRow(int shelf) {
      if (sort[shelf] == EMPTY) return NOTHING_THERE;
      return sort[shelf] == BODY ? OTHER_KIND : 0;
    }

    int refusesNumbers(int shelf) {
      if (sort[shelf] == EMPTY) return NOTHING_THERE;
      return within(sort[shelf], BYTES, INTS) ? 0 : OTHER_KIND;
    }

    boolean hasPlace(int shelf, int i) {
      return i >= 0 && i < size[shelf];
    }

    boolean hasSpan(int shelf, int i, int n) {
      return i >= 0 && n >= 0 && n <= size[shelf] && i <= size[shelf] - n;
    }

    void set(int shelf, int i, long v) {
      elements[shelf][i] = cut(sort[shelf], v);
    }

    private static long cut(int rowSort, long v) {
      switch (rowSort) {
        case BYTES: return (byte) v;
        case SHORTS: return (short) v;
        case INTS: return (int) v;
        case LONGS: return v;
        default: return v != 0 ? 1 : 0;
      }
    }

    private static long greatest(int rowSort) {
      if (rowSort == BYTES) return GREATEST_BYTE;
      return rowSort == SHORTS ? GREATEST_SHORT : GREATEST_INT;
    }

    /** An ear never writes the least number, as that would read as missing. */
    void setHeard(int shelf, int i, int x) {
      long most = greatest(sort[shelf]);
      elements[shelf][i] = Math.max(-most, Math.min(most, x));
    }

    private long present(int shelf, int k) {
      long v = elements[shelf][k];
      return v < -greatest(sort[shelf]) ? 0 : v;
    }

    long loudnessOf(int shelf, int period) {
      long c = 0;
      long s = 0;
      for (int k = 0; k < size[shelf]; k++) {
        c += present(shelf, k) * wave(k, period);
        s += present(shelf, k) * wave(k + period / 4, period);
      }
      c = Math.abs(c);
      s = Math.abs(s);
      return Math.max(c, s) + Math.min(c, s) / 2;
    }

    private static int wave(int k, int period) {
      return Integer.compare(period, 2 * (k % period));
    }

    int strongestPeriod(int shelf) {
      int best = SHORTEST;
      long most = -1;
      for (int period = SHORTEST; period <= LONGEST; period++) {
        long share = loudnessOf(shelf, period) / Math.max(1, size[shelf]);
        if (share > most) {
          most = share;
          best = period;
        }
      }
      return best;
    }
  }
}
