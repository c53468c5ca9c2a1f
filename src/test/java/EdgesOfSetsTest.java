/** Every edge that part 5 names for sets and joined shapes, and the promises 39 to 43. */
public final class EdgesOfSetsTest {
  private static final Due DUE = new Due("EdgesOfSetsTest");
  private static final int BAD = PlatesSing.BAD, NOT = PlatesSing.NOT, FULL = PlatesSing.FULL, STATE = PlatesSing.STATE;
  private static final Edges BUSY = new Edges(DUE, Worlds::busy);
  private static final Edges FULL_UP = new Edges(DUE, Worlds::full);

  // Promise 39: "A RATIO a : b: how many. BAD, FULL: 6."; part 5: "pairs a : b, 1 .. 9 each, at most 6"
  private static void ratios() {
    BUSY.bounds("39", BAD, "ratio", new long[] {5, 5}, 0, 1, 9);
    BUSY.bounds("39", BAD, "ratio", new long[] {5, 5}, 1, 1, 9);
    FULL_UP.refuses("39: six are told", FULL, "ratio", 1, 1);
    FULL_UP.refuses("39: six are told", FULL, "ratio", 9, 9);
    FULL_UP.refuses("39: BAD ahead of FULL", BAD, "ratio", 0, 1);
    FULL_UP.refuses("39: BAD ahead of FULL", BAD, "ratio", 1, 10);
    // Promise 41: "RATIOS are none: how many there were."
    for (int n = 0; n <= 6; n++) {
      PlatesSing x = new PlatesSing();
      for (int k = 1; k <= n; k++) DUE.is("39: how many", x.ratio(k, 10 - k), k);
      DUE.is("41: how many there were", x.unratio(), n);
      DUE.is("41: none then", x.unratio(), 0);
      DUE.is("39: the first", x.ratio(1, 1), 1);
    }
  }

  /** Shapes 0 .. 9 with TONES 0 of 0 .. 9 (by 9: 0, 9, .. 81), 10 without TONES, 11 with 54 (by 9: 99). */
  private static PlatesSing scale() {
    PlatesSing x = Due.with("c1");
    for (int pad = 1; pad <= 9; pad++) Due.shape(x, "c1;sa" + pad);
    Due.shape(x, "c1;ha");
    Due.shape(x, "c111111;sa9;pab9;pac9;pad9;pae9;paf9;hb;hc;hd;he;hf");
    return x;
  }

  private static Edges scaleWith(int ratios) {
    return new Edges(DUE, x -> {
      Due.shape(x, "c1;sa1");
      Due.shape(x, "c1;sa2");
      Due.shape(x, "c1;ha");
      for (int k = 0; k < ratios; k++) x.ratio(1, 1);
    });
  }

  // Promise 40: "SHAPES in order (digits base 16, the first one's the lowest, n 2 .. 7 of them; the list of RATIOS has n - 1 or more)"
  private static void agreeArguments() {
    Edges six = scaleWith(6);
    six.bounds("40", BAD, "agree", new long[] {0x10, 2, 0, 0}, 1, 2, 7);
    six.bounds("40: the first SHAPE alone", BAD, "agree", new long[] {0, 2, 0, 0}, 1, 2, 7);
    six.bounds("40: the first SHAPE alone", BAD, "agree", new long[] {0, 2, 0, 1}, 1, 2, 7);
    six.bounds("40: d 0 .. 9999", BAD, "agree", new long[] {0x10, 2, 0, 0}, 2, 0, 9999);
    six.bounds("40", BAD, "agree", new long[] {0x10, 2, 0, 0}, 3, 0, 1);
    for (int n = 2; n <= 7; n++) {
      for (int ratios = 0; ratios <= 6; ratios++) {
        Edges e = scaleWith(ratios);
        for (int what = 0; what <= 1; what++) {
          if (ratios >= n - 1) e.answers("40: n - 1 RATIOS or more", what == 0 ? n - 1 : 0, "agree", 0, n, 0, what);
          else e.refuses("40: too few RATIOS", STATE, "agree", 0, n, 0, what);
        }
        e.refuses("40: BAD ahead of STATE", BAD, "agree", 3, n, 0, 0);
        e.refuses("40: BAD ahead of STATE", BAD, "agree", 0, n, 10000, 0);
        e.refuses("40: BAD ahead of STATE", BAD, "agree", 0, n, 0, 2);
      }
      for (int place = 0; place < n; place++) {
        six.answers("40: the last shape with TONES", n - (place == 0 || place == n - 1 ? 2 : 3), "agree", 1 << 4 * place, n, 0, 0);
        six.refuses("40: a SHAPE without TONES", BAD, "agree", 2 << 4 * place, n, 0, 0);
        six.refuses("40: a SHAPE without TONES", BAD, "agree", 2 << 4 * place, n, 0, 1);
        six.refuses("40: no such SHAPE", BAD, "agree", 3 << 4 * place, n, 0, 0);
        six.refuses("40: no such SHAPE", BAD, "agree", 15 << 4 * place, n, 0, 1);
      }
      six.refuses("40: one digit more than n", BAD, "agree", 1 << 4 * n, n, 0, 0);
      six.refuses("40: one digit more than n", BAD, "agree", 1 << 4 * n, n, 0, 1);
      six.refuses("40: far more", BAD, "agree", 0x40000000, n, 0, 0);
      six.refuses("40: below 0", BAD, "agree", -1, n, 0, 0);
      six.refuses("40: below 0", BAD, "agree", -2147483648, n, 0, 1);
    }
    Edges none = scaleWith(0);
    none.refuses("40: too many digits, ahead of STATE", BAD, "agree", 0x100, 2, 0, 0);
    PlatesSing x = scale();
    x.ratio(1, 9);
    DUE.is("40: shape 11", x.agree(0xb1, 2, 18, 0), 1);
    DUE.is("40: shape 10 has no TONES", x.agree(0xa1, 2, 0, 0), BAD);
    DUE.is("40: shape 12", x.agree(0xc1, 2, 0, 0), BAD);
    DUE.is("40: shape 15", x.agree(0xf1, 2, 0, 0), BAD);
  }

  // "agree within a doubt d, if for each two that follow the SHUT by 9 of the one times b and that of the other one times a are no more than d apart"
  private static void doubts() {
    for (int a = 1; a <= 9; a += 4) {
      for (int b = 1; b <= 9; b += 4) {
        PlatesSing x = scale();
        x.ratio(a, b);
        for (int one = 0; one <= 9; one += 3) {
          for (int other = 0; other <= 9; other += 3) {
            int apart = Math.abs(9 * one * b - 9 * other * a);
            int shapes = one + 16 * other;
            DUE.is("40: just d apart", x.agree(shapes, 2, apart, 0), 1);
            DUE.is("40: just d apart, none is left out", x.agree(shapes, 2, apart, 1), 0);
            if (apart == 0) continue;
            DUE.is("40: d and 1 apart", x.agree(shapes, 2, apart - 1, 0), 0);
            DUE.is("40: d and 1 apart, the first is left out", x.agree(shapes, 2, apart - 1, 1), 1);
          }
        }
      }
    }
    PlatesSing y = scale();
    y.ratio(9, 1);
    DUE.is("40: 99 and 9 times 0", y.agree(0x0b, 2, 99, 0), 1);
    DUE.is("40: 0 and 9 times 99", y.agree(0xb0, 2, 890, 0), 0);
    DUE.is("40: 0 and 9 times 99", y.agree(0xb0, 2, 891, 0), 1);
  }

  // "the fewest SHAPES to leave out .. (.. RATIO k is of the k-th and the next one of those left): which, as bits, of several the least"; "one at least stays"
  private static void leftOut() {
    PlatesSing x = scale();
    x.ratio(1, 2);
    for (int k = 2; k <= 6; k++) x.ratio(1, k == 2 ? 2 : 1);
    // shapes 1, 2, 4: 9 : 18 : 36 agree with 1 : 2, 1 : 2
    DUE.is("40: none", x.agree(0x421, 3, 0, 1), 0);
    DUE.is("40: the first", x.agree(0x4217, 4, 0, 1), 1);
    DUE.is("40: the second", x.agree(0x4271, 4, 0, 1), 2);
    DUE.is("40: the last", x.agree(0x7421, 4, 0, 1), 8);
    DUE.is("40: as if the others weren't there: two of five", x.agree(0x47271, 5, 0, 1), 0x0a);
    DUE.is("40: of several the least", x.agree(0x4211, 4, 0, 1), 1);
    DUE.is("40: of several the least", x.agree(0x4221, 4, 0, 1), 2);
    DUE.is("40: 4 : 4 goes on by 1 : 1", x.agree(0x4444421, 7, 0, 1), 0);
    DUE.is("40: 1 : 2 and 1 : 1 do not", x.agree(0x4444442, 7, 0, 1) == 0 ? 1 : 0, 0);
    for (int n = 2; n <= 7; n++) {
      int allOnes = 0;
      for (int k = 0; k < n; k++) allOnes = 16 * allOnes + 1;
      DUE.is("40: one stays, the last, as its bits are least", x.agree(allOnes, n, 0, 1), (1 << n - 1) - 1);
      DUE.is("40: none agrees but by 1 : 1", x.agree(allOnes, n, 0, 0), Math.max(0, n - 3));
      DUE.is("40: all by a doubt", x.agree(allOnes, n, 9, 1), 0);
    }
    DUE.is("40: of two the one with a lesser bit", x.agree(0x11, 2, 8, 1), 1);
  }

  // Promise 42: "CORNERS a, b (ab: 10 times the one's, and the other's), STIFF v: the new SHAPE. BAD (also more than 6 CORNERS), FULL (BODIES, too)."
  private static void join() {
    Edges e = new Edges(DUE, x -> {
      Due.shape(x, "c12345;pab1");
      Due.shape(x, "c6");
      Due.shape(x, "c789");
    });
    e.bounds("42", BAD, "join", new long[] {0, 1, 0, 5}, 0, 0, 2);
    e.bounds("42", BAD, "join", new long[] {1, 1, 0, 5}, 1, 0, 2);
    e.bounds("42", BAD, "join", new long[] {0, 1, 0, 5}, 3, 1, 9);
    for (int ab = -12; ab <= 112; ab++) {
      boolean one = ab >= 0 && ab <= 40 && ab % 10 == 0;
      if (one) e.answers("42: ab", 3, "join", 0, 1, ab, 5);
      else e.refuses("42: ab", BAD, "join", 0, 1, ab, 5);
      boolean other = ab >= 0 && ab <= 4;
      if (other) e.answers("42: ab", 3, "join", 1, 0, ab, 5);
      else e.refuses("42: ab", BAD, "join", 1, 0, ab, 5);
    }
    for (long ab : new long[] {-2147483648, 2147483647, 2147483640, -2147483640, 1000}) e.refuses("42: ab", BAD, "join", 0, 1, ab, 5);
    e.answers("42: just 6 CORNERS", 3, "join", 2, 2, 22, 9);
    e.refuses("42: 8 CORNERS", BAD, "join", 0, 2, 0, 5);
    Edges seven = new Edges(DUE, x -> {
      Due.shape(x, "c1234");
      Due.shape(x, "c567");
      Due.shape(x, "c89");
    });
    seven.refuses("42: 7 CORNERS", BAD, "join", 0, 1, 0, 5);
    seven.refuses("42: 7 CORNERS, the other way", BAD, "join", 1, 0, 0, 5);
    seven.answers("42: 6 CORNERS", 3, "join", 0, 2, 31, 1);
    seven.answers("42: 6 CORNERS, the other way", 3, "join", 2, 0, 13, 9);
    seven.answers("42: 5 CORNERS", 3, "join", 1, 2, 21, 1);
    FULL_UP.refuses("42: SHAPES are full", FULL, "join", 1, 1, 0, 1);
    FULL_UP.refuses("42: BAD ahead of FULL", BAD, "join", 1, 1, 0, 0);
    FULL_UP.refuses("42: BAD ahead of FULL", BAD, "join", 0, 0, 0, 1);
    Edges twelve = new Edges(DUE, Worlds::fullOfShapes);
    twelve.refuses("42: SHAPES alone are full", FULL, "join", 1, 1, 0, 1);
    Edges room = new Edges(DUE, x -> pairAnd(x, 196));
    room.answers("42: BODIES are 200 then", 1, "join", 0, 0, 0, 1);
    Edges none = new Edges(DUE, x -> pairAnd(x, 197));
    none.refuses("42: BODIES would be 201", FULL, "join", 0, 0, 0, 1);
  }

  private static void pairAnd(PlatesSing x, int bodies) {
    Due.shape(x, "c12;pab3");
    for (int k = 0; k < bodies; k++) x.body(0);
  }

  // what a text or a JOINED one was refused for leaves nothing behind
  private static void afterFaults() {
    PlatesSing x = Due.with("c12;pab3");
    Due.shape(x, "c4;sa5");
    DUE.is("3: a fault", Due.shape(x, "c987;pab4;pbc5;sa6;wb7;hc;x"), -126);
    DUE.is("42: JOINED behind a fault", x.join(0, 1, 10, 6), 2);
    int[] due = {3, 2, 3};
    for (int what = 0; what <= 2; what++) DUE.is("42: behind a fault, " + what, x.of(2, what), due[what]);
    int[] heavy = {1, 2, 4}, pad = {0, 0, 5};
    for (int c = 0; c < 3; c++) {
      DUE.is("42: HEAVY behind a fault", x.of(2, 10 + c), heavy[c]);
      DUE.is("42: PAD behind a fault", x.of(2, 20 + c), pad[c]);
      DUE.is("42: WEIGHT behind a fault", x.of(2, 30 + c), 0);
      DUE.is("42: HELD behind a fault", x.of(2, 40 + c), 0);
    }
    DUE.is("42: its last PIECE", x.piece(2, 1, 2, 1), 6);
    DUE.is("43: a SHAPE of a text behind a JOINED one", Due.shape(x, "c1"), 3);
    DUE.is("43: was not JOINED", x.law(3, 11), NOT);
  }

  // "CORNERS of the one, then of the other one"; "(PADS, WEIGHTS, HOLDS, cracks as they are.)"
  private static void joined() {
    PlatesSing x = Due.with("c91;pab9;sa9;wb9;ha");
    Due.shape(x, "c1819;pab1;pda9;sd9;wd9;hd");
    x.crack(0, 0, 1, 9);
    x.crack(1, 0, 3, 8);
    DUE.is("42: the new SHAPE", x.join(0, 1, 13, 9), 2);
    int[] heavy = {9, 1, 1, 8, 1, 9}, pad = {9, 0, 0, 0, 0, 9}, weight = {0, 9, 0, 0, 0, 9}, held = {1, 0, 0, 0, 0, 1};
    for (int c = 0; c < 6; c++) {
      DUE.is("42: HEAVY", x.of(2, 10 + c), heavy[c]);
      DUE.is("42: PAD", x.of(2, 20 + c), pad[c]);
      DUE.is("42: WEIGHT", x.of(2, 30 + c), weight[c]);
      DUE.is("42: HELD", x.of(2, 40 + c), held[c]);
    }
    int[][] pieces = {{0, 1, 3, 9, 9}, {2, 3, 4, 1, 0}, {2, 5, 5, 9, 8}, {1, 5, 6, 9, 0}};
    for (int[] p : pieces) for (int what = 0; what <= 2; what++) DUE.is("42: a PIECE", x.piece(2, p[0], p[1], what), p[2 + what]);
    DUE.is("42: no more PIECES", x.of(2, 1), 4);
    DUE.is("56: its BODIES", x.count(1), 7);
    DUE.is("44: no act to undo", x.count(3), 2);
    // the one and the other are as they were, and what is done to them later is not done to the new one
    x.put(0, 0, 2, 0);
    x.crack(1, 0, 1, 1);
    DUE.is("42: the new one is its own", x.of(2, 40), 1);
    DUE.is("42: the new one is its own", x.piece(2, 2, 3, 2), 0);
    x.stroke(2, 1, 5);
    x.put(2, 5, 0, 0);
    DUE.is("42: the other one is its own", x.of(1, 23), 9);
  }

  // Promise 43: "LAW of SUMS for a JOINED SHAPE and the two of which it was JOINED, as they are now, and a MARK: 1, 0. BAD; NOT: it was not JOINED."
  private static void law() {
    BUSY.bounds("43", BAD, "law", new long[] {0, 11}, 0, 0, 4);
    BUSY.refuses("43: it was not JOINED", NOT, "law", 0, 11);
    BUSY.refuses("43: it was not JOINED", NOT, "law", 4, 11);
    BUSY.refuses("43: BAD ahead of NOT", BAD, "law", 0, 10);
    // "BELOW of the JOINED one for a MARK is that of both together, or 1 less"
    int[][] now = {{1, 1, 2, 1}, {1, 1, 1, 1}, {1, 1, 0, 0}, {0, 0, 0, 1}, {0, 0, 1, 0}, {0, 1, 0, 1}, {1, 0, 1, 1}, {1, 0, 2, 0}, {0, 0, 2, 0}};
    for (int[] n : now) {
      PlatesSing x = Due.with("c1");
      Due.shape(x, "c1");
      x.join(0, 1, 0, 9);
      x.put(0, 0, 0, n[0] == 1 ? 0 : 9);
      x.put(1, 0, 0, n[1] == 1 ? 0 : 9);
      x.crack(2, 0, 1, 9);
      x.put(2, 0, 0, n[2] >= 1 ? 0 : 9);
      x.put(2, 1, 0, n[2] == 2 ? 0 : 9);
      DUE.is("43: the one", x.below(0, 51, 0), n[0]);
      DUE.is("43: the other one", x.below(1, 51, 0), n[1]);
      DUE.is("43: the JOINED one", x.below(2, 51, 0), n[2]);
      DUE.is("43: " + n[0] + " and " + n[1] + " are " + n[2], x.law(2, 51), n[3]);
    }
    // without TONES of the one and the other the law ends where the JOINED one has TONES: above 9, above 9 / 2
    for (int heavy = 1; heavy <= 2; heavy++) {
      PlatesSing x = Due.with("c1;ha");
      x.join(0, 0, 0, 9);
      x.put(1, 0, 2, 0);
      if (heavy == 2) x.put(1, 0, 1, 1);
      int[][] marks = {{91, 92}, {101, 102}, {271, 92}, {273, 103}, {283, 102}, {819, 405}, {829, 419}};
      for (int[] m : marks) {
        int mark = m[heavy - 1];
        boolean above = mark / 10 * heavy > 9 * (mark % 10);
        DUE.is("43: HEAVY " + heavy + " for " + mark, x.law(1, mark), above ? 0 : 1);
      }
    }
    PlatesSing y = Due.with("c1;sa1");
    y.join(0, 0, 0, 1);
    y.join(1, 0, 10, 1);
    DUE.is("43: JOINED with itself", y.law(1, 21), 1);
    DUE.is("43: one that was JOINED, JOINED again", y.law(2, 21), 1);
    y.put(1, 0, 0, 9);
    y.put(1, 1, 0, 9);
    y.put(2, 0, 2, 1);
    DUE.is("43: BELOW of the JOINED one, as it is now", y.below(2, 21, 0), 1);
    DUE.is("43: BELOW is 1, of both 0 and 1", y.law(2, 21), 1);
  }

  public static void main(String[] args) {
    ratios();
    agreeArguments();
    doubts();
    leftOut();
    join();
    afterFaults();
    joined();
    law();
    DUE.finish();
  }
}
