/** Promises 50 to 56. */
public final class ShelvesTest {
  private static final Due DUE = new Due("ShelvesTest");
  private static final int BAD = PlatesSing.BAD;
  private static final long NO_LONG = Long.MIN_VALUE;

  private static void keeping() {
    PlatesSing x = new PlatesSing();
    for (int kind = 0; kind <= 5; kind++) x.body(kind);
    String[] under = {"0", "01", "012", "03", "014", "0145"};
    for (int kind = 0; kind <= 5; kind++) {
      DUE.is("50: keep", x.keep(kind, kind), 1);
      for (int k = 0; k <= 5; k++) {
        boolean good = under[kind].indexOf('0' + k) >= 0;
        DUE.is("55: " + kind + " for " + k, x.taken(kind, k), good ? kind : -12);
      }
    }
    DUE.is("55: kind 6", x.taken(0, 6), BAD);
    DUE.is("55: kind -1", x.taken(0, -1), BAD);
    DUE.is("55: shelf 6", x.taken(6, 0), BAD);
    DUE.is("55: shelf -1", x.taken(-1, 0), BAD);
    DUE.is("50: body 6", x.keep(0, 6), BAD);
    DUE.is("50: body -2", x.keep(0, -2), BAD);
    DUE.is("50: shelf 6", x.keep(6, 0), BAD);
    DUE.is("50: it stays", x.taken(0, 0), 0);
    DUE.is("50: nothing", x.keep(0, -1), 1);
    DUE.is("55: nothing there", x.taken(0, 0), -11);
    x.row(1, 2, 1);
    DUE.is("55: a row", x.taken(1, 0), -12);
    DUE.is("52: a body", x.place(2, 0, 1), -12);
    DUE.is("53: a body", x.element(2, 0), NO_LONG);
  }

  private static void rows() {
    PlatesSing x = new PlatesSing();
    DUE.is("51: sort 5", x.row(0, 5, 1), BAD);
    DUE.is("51: sort -1", x.row(0, -1, 1), BAD);
    DUE.is("51: n 61", x.row(0, 0, 61), BAD);
    DUE.is("51: n -1", x.row(0, 0, -1), -14);
    DUE.is("51: the least n", x.row(0, 0, -2147483648), -14);
    DUE.is("51: BAD ahead of -14", x.row(0, 5, -1), BAD);
    DUE.is("51: shelf 6", x.row(6, 0, 1), BAD);
    DUE.is("51: nothing came", x.place(0, 0, 1), -11);
    DUE.is("53: nothing there", x.element(0, 0), NO_LONG);
    long v = 0x1234567890abcdefL;
    long[] cut = {(byte) 0xef, (short) 0xcdef, 0x90abcdef, v, 1};
    for (int sort = 0; sort <= 4; sort++) {
      DUE.is("51: a row", x.row(sort, sort, 60), 1);
      DUE.is("51: 0 at first", x.element(sort, 59), 0);
      DUE.is("52: place", x.place(sort, 59, v), 1);
      DUE.is("52: its lowest bits", x.element(sort, 59), cut[sort]);
      DUE.is("52: 0", x.place(sort, 58, 0), 1);
      DUE.is("52: 0 stays 0", x.element(sort, 58), 0);
      DUE.is("52: a high bit alone", x.place(sort, 0, 1L << 32), 1);
      DUE.is("52: a boolean looks at all", x.element(sort, 0), sort == 3 ? 1L << 32 : sort == 4 ? 1 : 0);
      DUE.is("52: no place", x.place(sort, 60, 1), -13);
      DUE.is("52: no place", x.place(sort, -1, 1), -13);
      DUE.is("53: no place", x.element(sort, 60), NO_LONG);
      DUE.is("53: no place", x.element(sort, -1), NO_LONG);
      DUE.is("51: a new one", x.row(sort, sort, 60), 1);
      DUE.is("51: 0 again", x.element(sort, 59), 0);
    }
    DUE.is("52: shelf 6", x.place(6, 0, 1), BAD);
    DUE.is("53: shelf 6", x.element(6, 0), NO_LONG);
    DUE.is("51: an empty row", x.row(5, 2, 0), 1);
    DUE.is("52: it has no place", x.place(5, 0, 1), -13);
    x.keep(5, -1);
    DUE.is("50: it is gone", x.place(5, 0, 1), -11);
  }

  private static void shifting() {
    PlatesSing x = new PlatesSing();
    x.row(0, 2, 5);
    x.row(1, 2, 3);
    for (int k = 0; k < 5; k++) x.place(0, k, k + 1);
    DUE.is("54: onto itself", x.shift(0, 0, 0, 1, 4), 4);
    int[] up = {1, 1, 2, 3, 4};
    for (int k = 0; k < 5; k++) DUE.is("54: as they were before", x.element(0, k), up[k]);
    DUE.is("54: the other way", x.shift(0, 1, 0, 0, 4), 4);
    int[] down = {1, 2, 3, 4, 4};
    for (int k = 0; k < 5; k++) DUE.is("54: as they were before", x.element(0, k), down[k]);
    DUE.is("54: to another one", x.shift(0, 2, 1, 1, 2), 2);
    int[] other = {0, 3, 4};
    for (int k = 0; k < 3; k++) DUE.is("54: another one", x.element(1, k), other[k]);
    DUE.is("54: none", x.shift(0, 5, 1, 3, 0), 0);
    DUE.is("54: all", x.shift(1, 0, 0, 2, 3), 3);
    DUE.is("54: the last", x.element(0, 4), 4);
    int[][] noPlace = {{0, 0, 1, 0, 4}, {0, 3, 1, 0, 3}, {0, -1, 1, 0, 1}, {0, 0, 1, -1, 1}, {0, 6, 1, 0, 0},
        {0, 0, 1, 4, 0}, {0, 0, 1, 0, -1}, {0, 2147483647, 1, 0, 1}, {0, 0, 1, 2147483647, 2147483647}};
    for (int[] n : noPlace) DUE.is("54: no place", x.shift(n[0], n[1], n[2], n[3], n[4]), -13);
    x.row(2, 1, 3);
    DUE.is("54: unlike sorts", x.shift(0, 0, 2, 0, 1), -12);
    DUE.is("54: -12 ahead of -13", x.shift(0, 9, 2, 0, 1), -12);
    x.body(0);
    x.keep(3, 0);
    x.keep(4, 0);
    DUE.is("54: a body", x.shift(0, 0, 3, 0, 1), -12);
    DUE.is("54: from a body", x.shift(3, 0, 0, 0, 1), -12);
    DUE.is("54: two bodies", x.shift(3, 0, 4, 0, 0), -12);
    DUE.is("54: nothing", x.shift(0, 0, 5, 0, 1), -11);
    DUE.is("54: from nothing", x.shift(5, 0, 0, 0, 1), -11);
    DUE.is("54: -11 ahead of -12", x.shift(3, 0, 5, 0, 1), -11);
    DUE.is("54: shelf 6", x.shift(6, 0, 5, 0, 1), BAD);
    DUE.is("54: to shelf -1", x.shift(0, 0, -1, 0, 1), BAD);
  }

  private static void counting() {
    PlatesSing x = Due.with("c11;pab1");
    Due.feed(x, "c1;");
    x.body(3);
    x.put(0, 0, 0, 1);
    x.put(0, 0, 0, 2);
    x.undo();
    x.act(2, 0, 1);
    x.act(1, 1, 1);
    x.blow(0, 0, 1, 77);
    int[] due = {1, 2, 3, 1, 3, 77};
    for (int what = 0; what <= 5; what++) DUE.is("56: " + what, x.count(what), due[what]);
    DUE.is("56: what 6", x.count(6), BAD);
    DUE.is("56: what -1", x.count(-1), BAD);
  }

  public static void main(String[] args) {
    keeping();
    rows();
    shifting();
    counting();
    DUE.finish();
  }
}
