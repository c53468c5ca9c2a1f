/** Every edge that part 2 names for turns, tables and twins, and the promises 16 to 19. */
public final class EdgesOfTurnsTest {
  private static final Due DUE = new Due("EdgesOfTurnsTest");
  private static final int BAD = PlatesSing.BAD, NOT = PlatesSing.NOT;
  private static final Edges BUSY = new Edges(DUE, Worlds::busy);

  private static void arguments() {
    BUSY.bounds("16", BAD, "turnsOf", new long[] {0}, 0, 0, 4);
    BUSY.bounds("17", BAD, "orbit", new long[] {0, 0}, 0, 0, 4);
    BUSY.bounds("17", BAD, "orbit", new long[] {0, 0}, 1, 0, 2);
    BUSY.bounds("17", BAD, "orbit", new long[] {4, 0}, 1, 0, 0);
    BUSY.bounds("18", BAD, "table", new long[] {0, 0}, 0, 0, 4);
    BUSY.bounds("18", BAD, "table", new long[] {0, 0}, 1, 0, 4);
    BUSY.bounds("19", BAD, "alike", new long[] {0, 0, 0}, 0, 0, 4);
    BUSY.bounds("19", BAD, "alike", new long[] {0, 0, 0}, 1, 0, 4);
    BUSY.bounds("19", BAD, "alike", new long[] {0, 0, 0}, 2, 0, 1);
    PlatesSing x = new PlatesSing();
    DUE.is("16: no shapes", x.turnsOf(0), BAD);
    DUE.is("17: no shapes", x.orbit(0, 0), BAD);
    DUE.is("18: no shapes", x.table(0, 0), BAD);
    DUE.is("19: no shapes", x.alike(0, 0, 0), BAD);
  }

  // "TURNS of a SHAPE: orders of its CORNERS (r(0), r(1), ..)": from one alone to all orders of six
  private static void fewestAndMost() {
    int[] orders = {1, 2, 6, 24, 120, 720};
    for (int n = 1; n <= 6; n++) {
      PlatesSing x = Due.with("c555555".substring(0, n + 1));
      Due.shape(x, "c123456".substring(0, n + 1));
      DUE.is("16: all alike", x.turnsOf(0), orders[n - 1]);
      DUE.is("16: none alike", x.turnsOf(1), 1);
      for (int c = 0; c < n; c++) {
        DUE.is("17: to all", x.orbit(0, c), (1 << n) - 1);
        DUE.is("17: to itself alone", x.orbit(1, c), 1 << c);
      }
      DUE.is("17: one behind the last", x.orbit(0, n), BAD);
      int digits = 0;
      for (int c = 0; c < n; c++) digits = 10 * digits + c;
      DUE.is("18: of all orders the first", x.table(0, 0), digits);
      DUE.is("18: the only one", x.table(1, 1), digits);
    }
  }

  // "each has HEAVY, PAD, WEIGHT, HELD of the CORNER it comes to, and all PIECES COUNT as those they come to"
  private static void whatPartsCorners() {
    String[] unlike = {"c11", "c12", "c11;sa1", "c11;sa1;sb1", "c11;sa1;sb2", "c11;wa1", "c11;wa1;wb1", "c11;wa8;wb9",
        "c11;ha", "c11;ha;hb", "c99;sa9;sb9;wa9;wb9;pab9", "c12;wa1"};
    int[] turns = {2, 1, 1, 2, 1, 1, 2, 1, 1, 2, 2, 1};
    for (int k = 0; k < unlike.length; k++) {
      PlatesSing x = Due.with(unlike[k]);
      DUE.is("16: " + unlike[k], x.turnsOf(0), turns[k]);
      DUE.is("17: " + unlike[k], x.orbit(0, 0), turns[k] == 2 ? 3 : 1);
      DUE.is("18: " + unlike[k], x.table(0, 0), 1);
    }
    PlatesSing y = Due.with("c111;pab5;pbc5");
    DUE.is("16: two pieces alike", y.turnsOf(0), 2);
    y.crack(0, 1, 2, 1);
    DUE.is("16: one COUNTS 1 less", y.turnsOf(0), 1);
    y.crack(0, 0, 1, 1);
    DUE.is("16: both COUNT 1 less", y.turnsOf(0), 2);
    y.stroke(0, 0, 1);
    y.crack(0, 0, 1, 0);
    DUE.is("16: 4 without a crack COUNTS as 5 with one of 1", y.turnsOf(0), 2);
    y.crack(0, 0, 1, 4);
    DUE.is("16: one COUNTS 0", y.turnsOf(0), 2);
    DUE.is("17: the corner that nothing ties", y.orbit(0, 0), 1);
    DUE.is("17: the two that are tied", y.orbit(0, 1), 6);
    y.crack(0, 1, 2, 5);
    DUE.is("16: what COUNTS 0 parts nothing", y.turnsOf(0), 6);
  }

  // "TABLE from a SHAPE to another one with as many CORNERS: likewise, the first by digits r(0), r(1), ..: NOT: there is none"
  private static void tables() {
    PlatesSing x = Due.with("c123456");
    Due.shape(x, "c654321");
    Due.shape(x, "c612345");
    DUE.is("18: the greatest digits", x.table(0, 1), 543210);
    DUE.is("18: r(0) the highest", x.table(0, 2), 123450);
    DUE.is("18: the way back", x.table(2, 0), 501234);
    Due.shape(x, "c12345");
    DUE.is("18: one CORNER less", x.table(0, 3), NOT);
    DUE.is("18: one CORNER more", x.table(3, 0), NOT);
    Due.shape(x, "c1");
    Due.shape(x, "c2");
    DUE.is("18: one CORNER", x.table(4, 4), 0);
    DUE.is("18: one CORNER, another HEAVY", x.table(4, 5), NOT);
    Due.shape(x, "c1111;pab3;pcd4");
    Due.shape(x, "c1111;pab4;pcd3");
    DUE.is("18: of several the first", x.table(6, 7), 2301);
    BUSY.refuses("18: there is none", NOT, "table", 0, 1);
    BUSY.refuses("18: there is none", NOT, "table", 4, 3);
    PlatesSing y = Due.with("c11;pab2");
    Due.shape(y, "c11;pab3");
    DUE.is("18: PIECES that do not COUNT alike", y.table(0, 1), NOT);
    y.crack(1, 0, 1, 1);
    DUE.is("18: PIECES that COUNT alike", y.table(0, 1), 1);
    y.put(0, 1, 2, 1);
    DUE.is("18: HELD", y.table(0, 1), NOT);
    y.put(1, 0, 2, 1);
    DUE.is("18: HELD, to HELD", y.table(0, 1), 10);
  }

  private static int tonesOf(PlatesSing x, int... pads) {
    StringBuilder text = new StringBuilder("c");
    for (int k = 0; k < pads.length; k++) text.append('1');
    for (int k = 0; k < pads.length; k++) if (pads[k] > 0) text.append(";s").append((char) ('a' + k)).append(pads[k]);
    return Due.shape(x, text.toString());
  }

  // "SOUND ALIKE: as many TONES, and for each MARK p / 1, p 0 .. 6, the last E of one times DIVISOR of the other one is .."
  private static void soundAlike() {
    PlatesSing x = new PlatesSing();
    tonesOf(x, 1, 2, 3, 4, 5, 6);
    tonesOf(x, 1, 2, 3, 4, 5, 7);
    DUE.is("19: unlike at p 0 and 6 alone", x.alike(0, 1, 0), 0);
    tonesOf(x, 0, 1, 2, 3, 4, 5);
    tonesOf(x, 0, 1, 2, 3, 4, 6);
    DUE.is("19: unlike at p 5 and 6 alone", x.alike(2, 3, 0), 0);
    tonesOf(x, 6, 1, 3, 2, 4, 5);
    DUE.is("19: in another order", x.alike(0, 4, 0), 1);
    DUE.is("19: in another order there is a TABLE", x.alike(0, 4, 1), 0);
    tonesOf(x, 1, 6);
    tonesOf(x, 2, 3);
    DUE.is("19: alike at p 0 alone", x.alike(5, 6, 0), 0);
    tonesOf(x, 1, 2, 3, 4, 5);
    DUE.is("19: one TONE less", x.alike(0, 7, 0), 0);
    DUE.is("19: one TONE more", x.alike(7, 0, 0), 0);
    DUE.is("19: no TWINS with a TONE more", x.alike(7, 0, 1), 0);
    DUE.is("19: itself", x.alike(0, 0, 0), 1);
    DUE.is("19: not TWINS with itself", x.alike(0, 0, 1), 0);
    x.put(0, 5, 2, 1);
    DUE.is("19: a HELD one has no TONE", x.alike(0, 7, 0), 1);
    DUE.is("19: TWINS, as CORNERS are more", x.alike(0, 7, 1), 1);
  }

  // "where the DIVISOR is the product of (HEAVY + WEIGHT, 9 at most) of CORNERS not HELD"
  private static void divisors() {
    for (int heavy = 1; heavy <= 9; heavy++) {
      for (int pad = 0; pad <= 9; pad += 3) {
        PlatesSing x = Due.with("c2;sa6");
        Due.shape(x, "c" + heavy + (pad > 0 ? ";sa" + pad : ""));
        for (int weight = 0; weight <= 9; weight++) {
          x.put(1, 0, 1, weight);
          int mass = Math.min(9, heavy + weight);
          boolean like = 6 * mass == pad * 2;
          DUE.is("19: " + pad + " / " + mass, x.alike(0, 1, 0), like ? 1 : 0);
          DUE.is("19: the other way", x.alike(1, 0, 0), like ? 1 : 0);
          DUE.is("19: TWINS, if not the same", x.alike(0, 1, 1), like && (heavy != 2 || weight != 0) ? 1 : 0);
        }
      }
    }
    PlatesSing y = Due.with("c19;sa3;hb");
    Due.shape(y, "c12;sa3;hb");
    DUE.is("19: HELD ones do not count", y.alike(0, 1, 0), 1);
    DUE.is("19: but for a TABLE they do", y.alike(0, 1, 1), 1);
    PlatesSing z = Due.with("c5;ha");
    Due.shape(z, "c77;ha;hb");
    Due.shape(z, "c5;ha;sa9");
    Due.shape(z, "c5");
    DUE.is("19: no TONES at all", z.alike(0, 1, 0), 1);
    DUE.is("19: TWINS without TONES", z.alike(0, 2, 1), 1);
    DUE.is("19: no TONES and one", z.alike(0, 3, 0), 0);
    // all 9: the greatest DIVISOR, and the greatest sums
    PlatesSing w = Due.with("c999999;sa9;sb9;sc9;sd9;se9;sf9");
    Due.shape(w, "c111111;sa1;sb1;sc1;sd1;se1;sf1");
    DUE.is("19: nine times all", w.alike(0, 1, 0), 1);
    DUE.is("19: and no TABLE", w.alike(0, 1, 1), 1);
    w.stroke(0, 5, -1);
    DUE.is("19: one HEAVY less", w.alike(0, 1, 0), 0);
  }

  public static void main(String[] args) {
    arguments();
    fewestAndMost();
    whatPartsCorners();
    tables();
    soundAlike();
    divisors();
    DUE.finish();
  }
}
