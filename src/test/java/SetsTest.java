/** Promises 39 to 43. */
public final class SetsTest {
  private static final Due DUE = new Due("SetsTest");
  private static final int BAD = PlatesSing.BAD, STATE = PlatesSing.STATE;

  /** Shapes of one corner whose tones by 9 are 9, 18, 27, 36, and one without tones. */
  private static PlatesSing four() {
    PlatesSing x = Due.with("c1;sa1");
    Due.shape(x, "c1;sa2");
    Due.shape(x, "c1;sa3");
    Due.shape(x, "c1;sa4");
    Due.shape(x, "c1;ha");
    return x;
  }

  private static void ratios() {
    PlatesSing x = new PlatesSing();
    DUE.is("39: a 0", x.ratio(0, 1), BAD);
    DUE.is("39: a 10", x.ratio(10, 1), BAD);
    DUE.is("39: b 0", x.ratio(1, 0), BAD);
    DUE.is("39: b 10", x.ratio(1, 10), BAD);
    for (int n = 1; n <= 6; n++) DUE.is("39: told", x.ratio(9, 9), n);
    DUE.is("39: full", x.ratio(1, 1), PlatesSing.FULL);
    DUE.is("39: BAD ahead of FULL", x.ratio(0, 1), BAD);
    DUE.is("41: six", x.unratio(), 6);
    DUE.is("41: none", x.unratio(), 0);
    DUE.is("39: from 1 on again", x.ratio(1, 1), 1);
  }

  private static void agreeing() {
    PlatesSing x = four();
    x.ratio(1, 2);
    DUE.is("40: 9 : 18", x.agree(0x10, 2, 0, 0), 1);
    DUE.is("40: 18 : 9", x.agree(0x01, 2, 0, 0), 0);
    DUE.is("40: 36 and 9, 27 apart", x.agree(0x01, 2, 26, 0), 0);
    DUE.is("40: 36 and 9, 27 apart", x.agree(0x01, 2, 27, 0), 1);
    DUE.is("40: too few ratios", x.agree(0x210, 3, 0, 0), STATE);
    x.ratio(2, 3);
    x.ratio(3, 4);
    DUE.is("40: all", x.agree(0x3210, 4, 0, 0), 3);
    DUE.is("40: more ratios than needed", x.agree(0x210, 3, 0, 0), 2);
    DUE.is("40: the first two alone", x.agree(0x1210, 4, 0, 0), 2);
    DUE.is("40: none to leave out", x.agree(0x3210, 4, 0, 1), 0);
    DUE.is("40: the last", x.agree(0x1210, 4, 0, 1), 8);
    DUE.is("40: the first", x.agree(0x2103, 4, 0, 1), 1);
    DUE.is("40: one in between", x.agree(0x2130, 4, 0, 1), 2);
    DUE.is("40: of two like ones the least", x.agree(0x110, 3, 0, 1), 2);
    DUE.is("40: only one stays: the last", x.agree(0x000, 3, 0, 1), 3);
    DUE.is("40: two alike", x.agree(0x00, 2, 0, 1), 1);
    DUE.is("40: within d", x.agree(0x00, 2, 9, 1), 0);
    int[][] bad = {{0x10, 1, 0, 0}, {0x10, 8, 0, 0}, {0x10, 2, -1, 0}, {0x10, 2, 10000, 0}, {0x10, 2, 0, 2},
        {0x10, 2, 0, -1}, {0x50, 2, 0, 0}, {0x40, 2, 0, 0}, {0x04, 2, 0, 1}, {0xf0, 2, 0, 0}, {-1, 2, 0, 0}};
    for (int[] b : bad) DUE.is("40: wrong", x.agree(b[0], b[1], b[2], b[3]), BAD);
    int[][] tooLong = {{0x210, 2}, {0x100, 2}, {0x10000010, 2}, {0x3210, 3}, {0x1210, 2}, {0x10000, 4}, {0x40000010, 7},
        {0x10000000, 7}, {0x7fffffff, 7}, {-2147483648, 7}, {-2147483632, 2}, {0xf0000010, 2}};
    for (int[] b : tooLong) DUE.is("40: more digits than n", x.agree(b[0], b[1], 0, 0), BAD);
    DUE.is("40: more digits than n, which to leave out", x.agree(0x210, 2, 0, 1), BAD);
    DUE.is("40: fewer digits than n: the first shape is meant", x.agree(1, 3, 9999, 0), 2);
    DUE.is("40: d 9999", x.agree(0x01, 2, 9999, 0), 1);
    for (int n = 4; n <= 6; n++) x.ratio(1, 1);
    DUE.is("40: seven shapes", x.agree(0x3333210, 7, 0, 0), 6);
    DUE.is("40: seven shapes", x.agree(0x3033210, 7, 0, 1), 32);
    DUE.is("40: eight digits, n 7", x.agree(0x13333210, 7, 0, 0), BAD);
    x.unratio();
    DUE.is("40: more digits than n, ahead of STATE", x.agree(0x210, 2, 0, 0), BAD);
    DUE.is("40: BAD ahead of STATE", x.agree(0x50, 2, 0, 0), BAD);
    DUE.is("40: none told", x.agree(0x10, 2, 0, 0), STATE);
  }

  private static void joining() {
    PlatesSing x = Due.with("c12;pab3;sa4;wb5");
    Due.shape(x, "c678;pbc9;ha");
    x.crack(1, 1, 2, 4);
    DUE.is("42: joined", x.join(0, 1, 12, 7), 2);
    DUE.is("42: corners", x.of(2, 0), 5);
    int[] heavy = {1, 2, 6, 7, 8};
    for (int i = 0; i < 5; i++) DUE.is("42: HEAVY " + i, x.of(2, 10 + i), heavy[i]);
    DUE.is("42: PAD", x.of(2, 20), 4);
    DUE.is("42: WEIGHT", x.of(2, 31), 5);
    DUE.is("42: HELD", x.of(2, 42), 1);
    DUE.is("42: pieces", x.of(2, 1), 3);
    DUE.is("42: the one's piece", x.piece(2, 0, 1, 0), 2);
    DUE.is("42: the other's", x.piece(2, 3, 4, 0), 3);
    DUE.is("42: its crack", x.piece(2, 3, 4, 2), 4);
    DUE.is("42: the new one", x.piece(2, 1, 4, 0), 4);
    DUE.is("42: its STIFF", x.piece(2, 1, 4, 1), 7);
    DUE.is("42: they are bodies", x.act(4, 0, 0), 6);
    DUE.is("42: no act to undo", x.count(3), 1);
    x.put(0, 0, 0, 1);
    DUE.is("42: it is its own", x.of(2, 20), 4);
    int[][] bad = {{0, 3, 0, 1}, {-1, 0, 0, 1}, {0, 1, 20, 1}, {0, 1, 3, 1}, {0, 1, -1, 1}, {0, 1, 0, 0}, {0, 1, 0, 10},
        {2, 0, 0, 1}, {0, 1, 120, 1}};
    for (int[] b : bad) DUE.is("42: wrong", x.join(b[0], b[1], b[2], b[3]), BAD);
    DUE.is("42: three digits", x.join(0, 1, 100, 1), BAD);
    DUE.is("42: six corners", x.join(1, 1, 0, 9), 3);
    for (int n = 4; n < 12; n++) DUE.is("42: itself", x.join(0, 0, 1, 1), n);
    DUE.is("42: full", x.join(0, 0, 1, 1), PlatesSing.FULL);
    DUE.is("42: BAD ahead of FULL", x.join(0, 0, 1, 0), BAD);
    PlatesSing y = Due.with("c11;pab1");
    for (int n = 0; n < 197; n++) y.body(0);
    DUE.is("42: bodies are full", y.join(0, 0, 0, 1), PlatesSing.FULL);
    DUE.is("42: none came", y.count(1), 198);
    PlatesSing z = Due.with("c11;pab1");
    for (int n = 0; n < 196; n++) z.body(0);
    DUE.is("42: just 200", z.join(0, 0, 0, 1), 1);
  }

  private static void law() {
    PlatesSing x = Due.with("c1;sa1");
    Due.shape(x, "c1;sa1");
    DUE.is("42: joined", x.join(0, 1, 0, 1), 2);
    DUE.is("43: tones 1, 1 and 1, 3 at 2: 1 less", x.law(2, 21), 1);
    DUE.is("43: below both", x.law(2, 11), 1);
    DUE.is("43: above all", x.law(2, 991), 1);
    DUE.is("43: not joined", x.law(0, 11), PlatesSing.NOT);
    DUE.is("43: mark 10", x.law(2, 10), BAD);
    DUE.is("43: BAD ahead of NOT", x.law(0, 10), BAD);
    DUE.is("43: shape 3", x.law(3, 11), BAD);
    x.put(0, 0, 0, 9);
    DUE.is("43: as they are now: 1 less than 1", x.law(2, 21), 1);
    x.put(1, 0, 0, 9);
    DUE.is("43: as they are now: 1 more than 0", x.law(2, 21), 0);
    x.put(2, 0, 2, 1);
    x.put(2, 1, 2, 1);
    DUE.is("43: none any more", x.law(2, 21), 1);
    x.put(0, 0, 0, 1);
    x.put(1, 0, 0, 1);
    DUE.is("43: 2 less", x.law(2, 21), 0);
  }

  public static void main(String[] args) {
    ratios();
    agreeing();
    joining();
    law();
    DUE.finish();
  }
}
