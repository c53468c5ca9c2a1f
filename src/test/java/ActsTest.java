/** Promises 47 to 49. */
public final class ActsTest {
  private static final Due DUE = new Due("ActsTest");
  private static final int BAD = PlatesSing.BAD;

  private static void ranAre(String what, PlatesSing x, int... due) {
    DUE.is(what + ", how many", x.count(4), due.length);
    for (int k = 0; k < due.length; k++) DUE.is(what + ", body " + k, x.trace(k), due[k]);
    DUE.is(what + ", behind the last", x.trace(due.length), BAD);
    DUE.is(what + ", ahead of the first", x.trace(-1), BAD);
  }

  private static void bodies() {
    PlatesSing x = new PlatesSing();
    DUE.is("47: kind -1", x.body(-1), BAD);
    DUE.is("47: kind 6", x.body(6), BAD);
    for (int n = 0; n < 200; n++) DUE.is("47: body", x.body(n % 6), n);
    DUE.is("47: full", x.body(0), PlatesSing.FULL);
    DUE.is("47: BAD ahead of FULL", x.body(6), BAD);
    DUE.is("56: bodies", x.count(1), 200);
    DUE.is("48: its number counts", x.act(198, 2, 0), 198);
  }

  private static void acts() {
    PlatesSing x = new PlatesSing();
    for (int kind = 0; kind <= 5; kind++) x.body(kind);
    DUE.is("48: PART stiffens", x.act(0, 0, 7), 7);
    ranAre("49: PART stiffens", x, 1);
    DUE.is("48: PART weighs", x.act(0, 1, 7), 14);
    ranAre("49: PART weighs", x, 10, 1);
    DUE.is("48: PART sounds", x.act(0, 2, 7), 7);
    ranAre("49: PART sounds", x, 11);
    DUE.is("48: PART tells", x.act(0, 3, 7), 15);
    ranAre("49: PART tells", x, 2, 10, 1, 11);
    DUE.is("48: PIECE stiffens", x.act(1, 0, 7), 6);
    ranAre("49: PIECE stiffens", x, 20, 1);
    DUE.is("48: PIECE weighs", x.act(1, 1, 7), 12);
    ranAre("49: PIECE weighs", x, 10, 20, 1);
    DUE.is("48: HELD sounds", x.act(2, 2, 7), 25);
    ranAre("49: HELD sounds", x, 30, 11);
    DUE.is("48: HELD weighs", x.act(2, 1, 7), 12 + 1);
    ranAre("49: HELD weighs", x, 31, 10, 20, 1, 20, 1);
    DUE.is("48: HELD tells", x.act(2, 3, 7), 13 + 15);
    ranAre("49: HELD tells", x, 2, 31, 10, 20, 1, 20, 1, 30, 11);
    DUE.is("48: WEIGHTED weighs", x.act(3, 1, 7), -14);
    ranAre("49: WEIGHTED weighs", x, 40, 10, 1);
    DUE.is("48: WEIGHTED stiffens", x.act(3, 0, 7), 7);
    ranAre("49: WEIGHTED stiffens", x, 1);
    DUE.is("48: WEIGHTED sounds", x.act(3, 2, 7), 7 ^ 3);
    ranAre("49: WEIGHTED sounds", x, 11);
    DUE.is("48: WEIGHTED tells", x.act(3, 3, 7), -14 + (1 ^ 3));
    ranAre("49: WEIGHTED tells", x, 2, 40, 10, 1, 11);
    DUE.is("48: CRACKED stiffens", x.act(4, 0, 7), 6 ^ 3);
    ranAre("49: CRACKED stiffens", x, 50, 20, 1);
    DUE.is("48: CRACKED tells", x.act(4, 3, 7), (7 ^ 3) * 2 + (1 ^ 4));
    ranAre("49: CRACKED tells", x, 51, 2, 10, 50, 20, 1, 11);
    DUE.is("48: BENT sounds", x.act(5, 2, 7), (7 ^ 5) + 6);
    ranAre("49: BENT sounds", x, 60, 11, 10, 50, 20, 1);
    DUE.is("48: BENT tells", x.act(5, 3, 7), 2 * ((7 ^ 3) * 2 + (1 ^ 5) + 6));
    ranAre("49: BENT tells", x, 61, 51, 2, 10, 50, 20, 1, 60, 11, 10, 50, 20, 1);
    DUE.is("48: it wraps", x.act(0, 1, 2147483647), -2);
    DUE.is("48: it wraps", x.act(4, 3, 2147483647), ((-2147483648 - 1) ^ 3) * 2 + 5);
    int[][] none = {{6, 0}, {-1, 0}, {0, 4}, {0, -1}, {2147483647, 0}};
    for (int[] n : none) {
      x.act(0, 3, 1);
      DUE.is("48: no such", x.act(n[0], n[1], 5), 0);
      ranAre("49: no trace then", x);
    }
  }

  private static void pieces() {
    PlatesSing x = new PlatesSing();
    x.body(0);
    Due.shape(x, "c11;pab7");
    DUE.is("48: a piece has STIFF", x.act(1, 0, 5), 11);
    x.crack(0, 0, 1, 3);
    DUE.is("48: not what it counts", x.act(1, 0, 5), 11);
    x.stroke(0, 0, 1);
    DUE.is("48: as it is now", x.act(1, 0, 5), 10);
    x.undo();
    DUE.is("48: and undone", x.act(1, 0, 5), 11);
    DUE.is("48: the first has none", x.act(0, 0, 5), 5);
    x.body(1);
    DUE.is("48: a piece of no shape has none", x.act(2, 0, 5), 4);
  }

  public static void main(String[] args) {
    bodies();
    acts();
    pieces();
    DUE.finish();
  }
}
