/** Every edge that part 9 names, and the promises 50 to 56. */
public final class EdgesOfShelvesTest {
  private static final Due DUE = new Due("EdgesOfShelvesTest");
  private static final int BAD = PlatesSing.BAD;
  private static final long NO_LONG = Long.MIN_VALUE;
  private static final Edges NEW = new Edges(DUE, x -> { });
  private static final Edges BUSY = new Edges(DUE, Worlds::busy);

  // Promise 50: "A SHELF holds nothing (body -1), or a BODY: 1. BAD."; part 9: "SHELVES 0 .. 5 each hold nothing (at first)"
  private static void keep() {
    BUSY.bounds("50", BAD, "keep", new long[] {0, 0}, 0, 0, 5);
    BUSY.bounds("50", BAD, "keep", new long[] {0, 0}, 1, -1, 12);
    NEW.refuses("50: no BODY", BAD, "keep", 0, 0);
    NEW.refuses("50: nothing stays nothing", 1, "keep", 0, -1);
    for (int shelf = 0; shelf < 6; shelf++) {
      NEW.refuses("50: nothing at first", -11, "taken", shelf, 0);
      PlatesSing x = BUSY.make();
      DUE.is("50: the last BODY", x.keep(shelf, 12), 1);
      DUE.is("50: it holds it", x.taken(shelf, 5), 5);
      DUE.is("50: what it held before is gone", x.place(shelf, 0, 1), -12);
      DUE.is("50: a BODY on several SHELVES", x.keep((shelf + 1) % 6, 12), 1);
      DUE.is("50: nothing", x.keep(shelf, -1), 1);
      DUE.is("50: it holds nothing", x.taken(shelf, 5), -11);
      DUE.is("50: the next one holds it still", x.taken((shelf + 1) % 6, 5), 5);
      DUE.is("51: a ROW instead", x.row(shelf, 2, 1), 1);
      DUE.is("51: 0 at first, whatever was there", x.element(shelf, 0), 0);
    }
  }

  // Promise 51: "A SHELF holds a ROW: 1. BAD (sort, n above 60); -14."; part 9: "of 0 .. 60 elements, 0 at first (false)"
  private static void row() {
    BUSY.bounds("51", BAD, "row", new long[] {0, 0, 5}, 0, 0, 5);
    BUSY.bounds("51", BAD, "row", new long[] {0, 0, 5}, 1, 0, 4);
    for (int sort = 0; sort <= 4; sort++) {
      BUSY.answers("51: 0 elements", 1, "row", 0, sort, 0);
      BUSY.answers("51: 60 elements", 1, "row", 0, sort, 60);
      BUSY.refusesAll("51: n above 60", BAD, "row", new long[][] {{0, sort, 61}, {0, sort, 256}, {0, sort, 2147483647}});
      BUSY.refusesAll("51: n below 0", -14, "row", new long[][] {{0, sort, -1}, {5, sort, -60}, {0, sort, -2147483648}});
      PlatesSing x = new PlatesSing();
      x.row(0, sort, 60);
      for (int i = 0; i < 60; i++) DUE.is("51: 0 at first", x.element(0, i), 0);
      x.place(0, 0, 1);
      x.place(0, 59, 1);
      x.row(0, sort, 0);
      DUE.is("51: a ROW of none has no place", x.element(0, 0), NO_LONG);
      x.row(0, sort, 60);
      DUE.is("51: 0 at first, again", x.element(0, 0) + x.element(0, 59), 0);
      x.row(0, sort, 1);
      DUE.is("51: the only place", x.place(0, 0, 1), 1);
      DUE.is("51: the only place", x.place(0, 1, 1), -13);
    }
    BUSY.refuses("51: BAD ahead of -14", BAD, "row", 0, 5, -1);
    BUSY.refuses("51: BAD ahead of -14", BAD, "row", 6, 0, -1);
    BUSY.refuses("51: BAD ahead of -14", BAD, "row", -1, 0, -1);
  }

  // Promise 52: "Element i of a ROW becomes v: 1. BAD, -11, -12, -13."; promise 53: "Long.MIN_VALUE: BAD, -11 to -13."
  private static void places() {
    BUSY.bounds("52", BAD, "place", new long[] {0, 0, 5}, 0, 0, 5);
    BUSY.bounds("52", -13, "place", new long[] {0, 0, 5}, 1, 0, 5);
    BUSY.bounds("53", NO_LONG, "element", new long[] {0, 0}, 1, 0, 5);
    for (int shelf = 0; shelf <= 3; shelf++) {
      int size = shelf == 0 ? 6 : 4;
      BUSY.bounds("52: shelf " + shelf, -13, "place", new long[] {shelf, 0, 5}, 1, 0, size - 1);
      BUSY.bounds("53: shelf " + shelf, NO_LONG, "element", new long[] {shelf, 0}, 1, 0, size - 1);
    }
    BUSY.refuses("52: a BODY", -12, "place", 4, 0, 5);
    BUSY.refuses("52: -12 ahead of -13", -12, "place", 4, -1, 5);
    BUSY.refuses("52: nothing is there", -11, "place", 5, 0, 5);
    BUSY.refuses("52: -11 ahead of -13", -11, "place", 5, 60, 5);
    BUSY.refuses("52: BAD ahead of -13", BAD, "place", 6, -1, 5);
    BUSY.refuses("53: a BODY", NO_LONG, "element", 4, 0);
    BUSY.refuses("53: nothing is there", NO_LONG, "element", 5, 0);
    BUSY.refusesAll("53: no such SHELF", NO_LONG, "element", new long[][] {{6, 0}, {-1, 0}, {2147483647, 0}, {-2147483648, 0}});
    Edges empty = new Edges(DUE, x -> x.row(0, 3, 0));
    empty.refuses("52: no elements", -13, "place", 0, 0, 5);
    empty.refuses("53: no elements", NO_LONG, "element", 0, 0);
  }

  // "what is put in keeps its lowest bits (a boolean: whether it is not 0; 1 or 0)"
  private static void lowestBits() {
    long[] all = {0, 1, -1, 2, 127, 128, -127, -128, -129, 255, 256, 257, 32767, 32768, -32767, -32768, -32769, 65535, 65536, 65537,
        2147483647L, 2147483648L, -2147483647L, -2147483648L, -2147483649L, 4294967295L, 4294967296L, 4294967297L,
        Long.MAX_VALUE, Long.MIN_VALUE, Long.MIN_VALUE + 1, 0x123456789abcdef0L};
    PlatesSing x = new PlatesSing();
    for (int sort = 0; sort <= 4; sort++) x.row(sort, sort, 60);
    for (int k = 0; k < all.length; k++) {
      long v = all[k];
      long[] due = {(byte) v, (short) v, (int) v, v, v != 0 ? 1 : 0};
      int at = k % 2 == 0 ? 0 : 59;
      for (int sort = 0; sort <= 4; sort++) {
        DUE.is("52: " + v, x.place(sort, at, v), 1);
        DUE.is("52: sort " + sort + ", " + v, x.element(sort, at), due[sort]);
        if (k == 0) continue;
        long before = all[k - 1];
        long[] still = {(byte) before, (short) before, (int) before, before, before != 0 ? 1 : 0};
        DUE.is("52: the other elements stay", x.element(sort, 59 - at), still[sort]);
      }
      if (k % 8 == 7) x = renewed(all, k);
    }
  }

  /** A new object with what the old one had, as an object is used for 512 calls at most. */
  private static PlatesSing renewed(long[] all, int k) {
    PlatesSing x = new PlatesSing();
    for (int sort = 0; sort <= 4; sort++) {
      x.row(sort, sort, 60);
      x.place(sort, k % 2 == 0 ? 0 : 59, all[k]);
    }
    return x;
  }

  // Promise 54: "n elements of a ROW from i on come to another one (or the same) from j on, as they all were before: n. BAD, -11 (either), -12 (no ROWS, or of unlike sorts), -13."
  private static void shift() {
    long[] good = {0, 0, 0, 0, 1};
    BUSY.bounds("54", BAD, "shift", good, 0, 0, 5);
    BUSY.bounds("54", BAD, "shift", good, 2, 0, 5);
    BUSY.bounds("54: i", -13, "shift", good, 1, 0, 5);
    BUSY.bounds("54: j", -13, "shift", good, 3, 0, 5);
    BUSY.bounds("54: n", -13, "shift", good, 4, 0, 6);
    BUSY.bounds("54: i of none", -13, "shift", new long[] {0, 0, 0, 0, 0}, 1, 0, 6);
    BUSY.bounds("54: j of none", -13, "shift", new long[] {0, 0, 0, 0, 0}, 3, 0, 6);
    BUSY.bounds("54: n from i 5 on", -13, "shift", new long[] {0, 5, 0, 0, 0}, 4, 0, 1);
    BUSY.bounds("54: n to j 5 on", -13, "shift", new long[] {0, 0, 0, 5, 0}, 4, 0, 1);
    BUSY.refuses("54: none", 0, "shift", 0, 6, 0, 6, 0);
    BUSY.refuses("54: onto their own places", 6, "shift", 0, 0, 0, 0, 6);
    BUSY.refuses("54: nothing is there", -11, "shift", 5, 0, 0, 0, 1);
    BUSY.refuses("54: nothing is there, the other one", -11, "shift", 0, 0, 5, 0, 1);
    BUSY.refuses("54: nothing is there, both", -11, "shift", 5, 0, 5, 0, 0);
    BUSY.refuses("54: -11 ahead of -12", -11, "shift", 4, 0, 5, 0, 1);
    BUSY.refuses("54: -11 ahead of -12", -11, "shift", 5, 0, 4, 0, 1);
    BUSY.refuses("54: -11 ahead of -13", -11, "shift", 5, -1, 0, 0, 1);
    BUSY.refuses("54: no ROW", -12, "shift", 4, 0, 0, 0, 1);
    BUSY.refuses("54: no ROW, the other one", -12, "shift", 0, 0, 4, 0, 1);
    BUSY.refuses("54: no ROW, both", -12, "shift", 4, 0, 4, 0, 0);
    for (int one = 0; one <= 3; one++) {
      for (int other = 0; other <= 3; other++) {
        if (one == other) BUSY.answers("54: the same sort", 2, "shift", one, 0, other, 1, 2);
        else BUSY.refuses("54: unlike sorts", -12, "shift", one, 0, other, 0, 0);
      }
    }
    BUSY.refuses("54: -12 ahead of -13", -12, "shift", 0, 7, 1, 0, 1);
    BUSY.refuses("54: BAD ahead of -11", BAD, "shift", 6, 0, 5, 0, 1);
    BUSY.refuses("54: BAD ahead of -13", BAD, "shift", 0, 0, -1, 0, -1);
    asTheyWere();
  }

  private static void asTheyWere() {
    for (int i = 0; i <= 8; i += 2) {
      for (int j = 0; j <= 8; j++) {
        for (int n = 0; n <= 8 - Math.max(i, j); n++) {
          PlatesSing x = new PlatesSing();
          x.row(2, 3, 8);
          long[] due = new long[8];
          for (int k = 0; k < 8; k++) {
            x.place(2, k, k + 1);
            due[k] = k + 1;
          }
          for (int k = 0; k < n; k++) due[j + k] = i + k + 1;
          DUE.is("54: onto itself", x.shift(2, i, 2, j, n), n);
          for (int k = 0; k < 8; k++) DUE.is("54: " + i + " to " + j + ", " + n, x.element(2, k), due[k]);
        }
      }
    }
    // to a shorter, to a longer one
    PlatesSing y = new PlatesSing();
    y.row(0, 2, 60);
    y.row(1, 2, 3);
    for (int k = 0; k < 60; k++) y.place(0, k, k + 100);
    DUE.is("54: the last ones", y.shift(0, 57, 1, 0, 3), 3);
    for (int k = 0; k < 3; k++) DUE.is("54: the last ones", y.element(1, k), 157 + k);
    DUE.is("54: one too many", y.shift(0, 56, 1, 0, 4), -13);
    DUE.is("54: all 60", y.shift(0, 0, 0, 0, 60), 60);
    DUE.is("54: 61", y.shift(0, 0, 0, 0, 61), -13);
    DUE.is("54: back", y.shift(1, 0, 0, 57, 3), 3);
    DUE.is("54: one behind the last", y.shift(1, 0, 0, 58, 3), -13);
    DUE.is("54: i and n that wrap together", y.shift(0, 2147483647, 1, 0, 2147483647), -13);
    DUE.is("54: j and n that wrap together", y.shift(0, 0, 1, 2147483647, 1), -13);
  }

  // Promise 55: "What a SHELF holds, taken for a BODY of KIND k (0 .. 5), or under it: its KIND. BAD, -11, -12."
  private static void taken() {
    BUSY.bounds("55", BAD, "taken", new long[] {4, 0}, 0, 0, 5);
    BUSY.bounds("55", BAD, "taken", new long[] {4, 0}, 1, 0, 5);
    for (int shelf = 0; shelf <= 3; shelf++) BUSY.refuses("55: a ROW", -12, "taken", shelf, 0);
    BUSY.refuses("55: nothing is there", -11, "taken", 5, 5);
    BUSY.refuses("55: BAD ahead of -11", BAD, "taken", 5, 6);
    BUSY.refuses("55: BAD ahead of -12", BAD, "taken", 0, -1);
    boolean[][] under = new boolean[6][6];
    int[][] above = {{0}, {1, 0}, {2, 1, 0}, {3, 0}, {4, 1, 0}, {5, 4, 1, 0}};
    for (int kind = 0; kind <= 5; kind++) for (int k : above[kind]) under[kind][k] = true;
    for (int kind = 0; kind <= 5; kind++) {
      int held = 7 + kind;
      Edges e = new Edges(DUE, x -> {
        Worlds.busy(x);
        x.keep(0, held);
      });
      for (int k = 0; k <= 5; k++) {
        if (under[kind][k]) e.answers("55: KIND " + kind + " for " + k, kind, "taken", 0, k);
        else e.refuses("55: KIND " + kind + " for " + k, -12, "taken", 0, k);
      }
    }
  }

  // Promise 56: "How many: 0 SHAPES, 1 BODIES, 2 bytes on THE TAPE, 3 ACTS that may be UNDONE, 4 bodies that ran in the latest act(), 5 steps of the latest BLOW. BAD."
  private static void count() {
    BUSY.bounds("56", BAD, "count", new long[] {0}, 0, 0, 5);
    int[] busy = {5, 13, 7, 4, 13, 40};
    int[] full = {12, 200, 120, 40, 0, 0};
    Edges filled = new Edges(DUE, Worlds::full);
    for (int what = 0; what <= 5; what++) {
      NEW.answers("56: a new object", 0, "count", what);
      BUSY.answers("56: some of all", busy[what], "count", what);
      filled.answers("56: all full", full[what], "count", what);
    }
    PlatesSing x = new PlatesSing();
    DUE.is("56: the 512th call", lastOf512(x), 511);
  }

  /** "An object is used for at most 512 calls after it has been made": the last of them still answers. */
  private static int lastOf512(PlatesSing x) {
    int sum = 0;
    for (int call = 1; call < 512; call++) sum += x.keep(call % 6, -1);
    return x.count(0) + sum;
  }

  public static void main(String[] args) {
    keep();
    row();
    places();
    lowestBits();
    shift();
    taken();
    count();
    DUE.finish();
  }
}
