/** Every edge that parts 1, 2, 5 and 6 name for tones, and the promises 9 to 15. */
public final class EdgesOfTonesTest {
  private static final Due DUE = new Due("EdgesOfTonesTest");
  private static final int BAD = PlatesSing.BAD, NOT = PlatesSing.NOT, STATE = PlatesSing.STATE;
  private static final long NO_LONG = Long.MIN_VALUE;
  private static final Edges BUSY = new Edges(DUE, Worlds::busy);

  // Part 1: "a MARK p / q (p 0 .. 99, q 1 .. 9)"; "mark: 10 times p, and q"
  private static void marks() {
    PlatesSing x = Due.with("c1;sa1");
    Due.shape(x, "c1;sa1");
    x.join(0, 1, 0, 1);
    for (int mark = -25; mark <= 1025; mark++) {
      boolean good = mark >= 1 && mark <= 999 && mark % 10 != 0;
      int p = mark / 10, q = mark % 10;
      DUE.is("9: BELOW for " + mark, x.below(0, mark, 0), good ? q - p < 0 ? 1 : 0 : BAD);
      DUE.is("9: AT for " + mark, x.below(0, mark, 1), good ? q == p ? 1 : 0 : BAD);
      DUE.is("10: E(0) for " + mark, x.sums(0, mark, 0), good ? 1 : NO_LONG);
      DUE.is("10: E(1) for " + mark, x.sums(0, mark, 1), good ? q - p : NO_LONG);
      DUE.is("12: STILL for " + mark, x.still(0, 0, mark), good ? 0 : BAD);
      DUE.is("43: LAW for " + mark, x.law(2, mark), good ? 1 : BAD);
    }
    long[] wrong = {0, 10, 990, 1000, 1001, -1, -9, -11, -2147483648, -2147483647, 2147483647, 2147483641};
    for (long mark : wrong) {
      BUSY.refuses("9", BAD, "below", 0, mark, 0);
      BUSY.refuses("9", BAD, "below", 0, mark, 1);
      BUSY.refuses("10", NO_LONG, "sums", 0, mark, 0);
      BUSY.refuses("12", BAD, "still", 0, 0, mark);
      BUSY.refuses("43", BAD, "law", 2, mark);
    }
  }

  // Promise 9: "BELOW (what 0), AT (1)"; promise 10: "E(k) for a MARK. Long.MIN_VALUE: BAD."
  private static void arguments() {
    BUSY.bounds("9", BAD, "below", new long[] {0, 11, 0}, 0, 0, 4);
    BUSY.bounds("9", BAD, "below", new long[] {0, 11, 0}, 2, 0, 1);
    BUSY.bounds("10", NO_LONG, "sums", new long[] {0, 11, 0}, 0, 0, 4);
    for (int tones = 0; tones <= 6; tones++) {
      String text = tones == 0 ? "c1;ha" : "c111111".substring(0, tones + 1);
      Edges e = new Edges(DUE, x -> Due.shape(x, text));
      e.bounds("10: k 0 .. TONES", NO_LONG, "sums", new long[] {0, 21, 0}, 2, 0, tones);
      e.answers("10: E(0) is 1", 1, "sums", 0, 991, 0);
      e.answers("10: the last E", tones % 2 == 0 ? 1 : -1, "sums", 0, 11, tones);
      e.answers("9: all below", tones, "below", 0, 11, 0);
      e.answers("9: all AT 0, E(0) never", tones, "below", 0, 1, 1);
      e.answers("9: none below", 0, "below", 0, 1, 0);
      if (tones > 0) e.bounds("11: TONES", BAD, "shut", new long[] {0, 0, 1}, 1, 0, tones - 1);
      else e.refuses("11: no TONES", BAD, "shut", 0, 0, 1);
    }
    BUSY.bounds("11", BAD, "shut", new long[] {0, 0, 1}, 0, 0, 2);
    BUSY.answers("11: the last shape", 2, "shut", 4, 0, 1);
    BUSY.refuses("11: a shape without TONES", BAD, "shut", 3, 0, 1);
    BUSY.bounds("11", BAD, "shut", new long[] {0, 0, 1}, 1, 0, 2);
    BUSY.bounds("11", BAD, "shut", new long[] {0, 0, 1}, 2, 1, 9);
  }

  // "HEAVY + WEIGHT, 9 at most together"
  private static void heavyAndWeight() {
    for (int heavy = 1; heavy <= 9; heavy++) {
      PlatesSing x = Due.with("c" + heavy + ";sa7");
      for (int weight = 0; weight <= 9; weight++) {
        x.put(0, 0, 1, weight);
        int mass = Math.min(9, heavy + weight);
        DUE.is("10: p 1", x.sums(0, 11, 1), 7 - mass);
        DUE.is("10: p 0", x.sums(0, 5, 1), 35);
        DUE.is("10: p 99", x.sums(0, 999, 1), 63 - 99 * mass);
        DUE.is("11: by 9", x.shut(0, 0, 9), 63 / mass);
      }
    }
  }

  // "A(i, i) = q (PAD + what all PIECES at it COUNT) - p (..)"; "A(i, j) = - q times what the PIECE between them COUNTS (0 without)"
  private static void matrixOfTwo() {
    for (int stiff = 1; stiff <= 9; stiff++) {
      PlatesSing x = Due.with("c23;pab" + stiff + ";sb4");
      for (int crack = 0; crack <= stiff; crack++) {
        x.crack(0, 0, 1, crack);
        for (int mark : new int[] {1, 9, 13, 991, 999}) {
          long p = mark / 10, q = mark % 10, c = stiff - crack;
          long one = q * c - 2 * p, other = q * (4 + c) - 3 * p;
          DUE.is("10: E(1)", x.sums(0, mark, 1), one + other);
          DUE.is("10: E(2)", x.sums(0, mark, 2), one * other - q * q * c * c);
        }
      }
    }
    PlatesSing y = Due.with("c23;sa5;sb4");
    DUE.is("10: 0 without a PIECE", y.sums(0, 12, 2), 8 * 5);
    PlatesSing z = Due.with("c23;pab7;hb");
    DUE.is("10: a PIECE to a HELD one COUNTS at the other one", z.sums(0, 12, 1), 14 - 2);
    DUE.is("10: a HELD one has no row", z.sums(0, 12, 2), NO_LONG);
    PlatesSing w = Due.with("c567;sa1;sc2;hb");
    DUE.is("10: rows in order", w.sums(0, 11, 2), (1 - 5) * (2 - 7));
    DUE.is("10: rows in order", w.sums(0, 11, 1), (1 - 5) + (2 - 7));
  }

  // "BELOW: how often the sign changes along E(0), E(1), .. (0 left out). AT: how many of the last ones are 0, one behind the other"
  private static void zerosAmongSums() {
    PlatesSing x = Due.with("c11;sa2");
    DUE.is("10: E(1) is 0", x.sums(0, 11, 1), 0);
    DUE.is("10: E(2)", x.sums(0, 11, 2), -1);
    DUE.is("9: 0 left out", x.below(0, 11, 0), 1);
    DUE.is("9: a 0 that is not among the last ones", x.below(0, 11, 1), 0);
    PlatesSing y = Due.with("c111;sa2;sc1");
    DUE.is("10: E(1) is 0", y.sums(0, 11, 1), 0);
    DUE.is("10: E(3) is 0", y.sums(0, 11, 3), 0);
    DUE.is("9: 0 left out, at the end too", y.below(0, 11, 0), 1);
    DUE.is("9: one behind the other", y.below(0, 11, 1), 1);
    PlatesSing z = Due.with("c1111;sa1;sb1;sc1;sd2");
    DUE.is("9: three of the last", z.below(0, 11, 1), 3);
    DUE.is("9: none below", z.below(0, 11, 0), 0);
    DUE.is("9: three below", z.below(0, 32, 0), 3);
    DUE.is("9: one at 2", z.below(0, 21, 1), 1);
    DUE.is("9: three below 2", z.below(0, 21, 0), 3);
    DUE.is("9: all below", z.below(0, 31, 0), 4);
  }

  /** One free corner and five held ones: its tone is pull / heavy. */
  private static PlatesSing oneTone(int pull, int heavy) {
    StringBuilder text = new StringBuilder("c" + heavy + "11111;hb;hc;hd;he;hf");
    int left = pull;
    for (char c = 'b'; c <= 'f' && left > 0; c++) {
      text.append(";pa").append(c).append(Math.min(9, left));
      left -= Math.min(9, left);
    }
    if (left > 0) text.append(";sa").append(left);
    return Due.with(text.toString());
  }

  // "TONE i SHUT by q: the greatest p (0 .. 99) with BELOW(p / q) i or less; (p / q is not above it, (p + 1) / q is, if p is below 99)"
  private static void shutByAll() {
    for (int pull = 0; pull <= 54; pull++) {
      for (int heavy : new int[] {1, 2, 5, 9}) {
        PlatesSing x = oneTone(pull, heavy);
        for (int q = 1; q <= 9; q++) {
          DUE.is("11: " + pull + " / " + heavy + " by " + q, x.shut(0, 0, q), Math.min(99, pull * q / heavy));
        }
      }
    }
    DUE.is("11: just 99", oneTone(11, 1).shut(0, 0, 9), 99);
    DUE.is("11: just below 99", oneTone(49, 1).shut(0, 0, 2), 98);
    DUE.is("11: just above 99", oneTone(50, 1).shut(0, 0, 2), 99);
    DUE.is("11: a tone of 0", oneTone(0, 9).shut(0, 0, 9), 0);
    PlatesSing y = Due.with("c1111;sa9;sb1;sc5;sd5");
    int[] due = {1, 5, 5, 9};
    for (int i = 0; i < 4; i++) DUE.is("11: 0 the lowest", y.shut(0, i, 1), due[i]);
    PlatesSing z = Due.with("c11;pab9;sa9;sb9");
    DUE.is("11: a lower one is not held", z.shut(0, 0, 9), 81);
    DUE.is("11: a higher one is held at 99", z.shut(0, 1, 9), 99);
    DUE.is("11: 108 by 4", z.shut(0, 1, 4), 99);
  }

  // Part 2: "STILL is a CORNER (not HELD) at a MARK, if AT is above 0 and AT, with that CORNER HELD, is that or more."
  private static void still() {
    BUSY.bounds("12", BAD, "still", new long[] {0, 0, 11}, 0, 0, 2);
    BUSY.bounds("12", BAD, "still", new long[] {0, 0, 11}, 1, 0, 2);
    BUSY.refuses("12: also a HELD one", BAD, "still", 1, 1, 11);
    BUSY.refuses("12: also a HELD one", BAD, "still", 3, 0, 11);
    BUSY.answers("12: the last shape", 0, "still", 4, 0, 11);
    PlatesSing x = Due.with("c1111;sa1;sb1;sc2;sd3");
    DUE.is("12: AT is 0, and so it is with it HELD", x.still(0, 0, 41), 0);
    DUE.is("12: 2, and 1 with it HELD", x.still(0, 0, 11), 0);
    DUE.is("12: 2, and 2 with it HELD", x.still(0, 2, 11), 1);
    DUE.is("12: 1, and 0 with it HELD", x.still(0, 3, 31), 0);
    DUE.is("12: it is not HELD then", x.of(0, 43), 0);
    PlatesSing y = Due.with("c111;pab1;pbc1");
    DUE.is("12: 1, and 2 with it HELD", y.still(0, 1, 11), 1);
    DUE.is("12: AT 0, and 1 with it HELD", y.below(0, 21, 1), 0);
    PlatesSing z = Due.with("c11;pab1;sa1");
    DUE.is("12: none is AT 1", z.below(0, 11, 1), 0);
    DUE.is("12: AT 0, though it is 1 with it HELD", z.still(0, 0, 11), 0);
    PlatesSing w = Due.with("c1");
    DUE.is("12: with it HELD no TONE is left", w.still(0, 0, 1), 0);
    // two corners apart, one of each TONE: at every MARK the one that has not that TONE is STILL
    int[][] tones = {{9, 2, 92}, {9, 4, 94}, {9, 4, 188}, {1, 9, 19}, {5, 3, 53}, {8, 1, 648}, {9, 1, 819}, {9, 1, 91}, {7, 6, 76}};
    for (int[] t : tones) {
      PlatesSing v = Due.with("c" + t[1] + "1;sa" + t[0]);
      for (int mark : new int[] {t[2], t[2] + 10, t[2] - 10}) {
        boolean at = mark == t[2];
        if (mark < 10) continue;
        DUE.is("12: the one whose TONE it is, " + mark, v.still(0, 0, mark), 0);
        DUE.is("12: the other one, " + mark, v.still(0, 1, mark), at ? 1 : 0);
      }
    }
    PlatesSing u = oneTone(54, 1);
    u.put(0, 5, 2, 0);
    u.put(0, 5, 0, 1);
    u.crack(0, 0, 5, 9);
    DUE.is("12: 45 / 1, the one whose TONE it is", u.still(0, 0, 451), 0);
    DUE.is("12: 45 / 1, the other one", u.still(0, 5, 451), 1);
    DUE.is("12: 90 / 2, the other one", u.still(0, 5, 902), 1);
    DUE.is("12: 1 / 1, the other way", u.still(0, 0, 11), 1);
  }

  // Part 2: "SPLIT of a TONE by WEIGHT w (1 .. 9) at a CORNER without one: how many of the TONES i with the same SHUT by q as TONE i have another one with it."
  private static void split() {
    BUSY.bounds("13", BAD, "split", new long[] {0, 0, 1, 1}, 0, 0, 2);
    BUSY.answers("13: the last shape", 1, "split", 4, 0, 1, 1);
    BUSY.bounds("13", BAD, "split", new long[] {0, 0, 1, 1}, 1, 0, 2);
    BUSY.bounds("13", BAD, "split", new long[] {0, 0, 1, 1}, 2, 1, 9);
    Edges six = new Edges(DUE, x -> Due.shape(x, "c111111;sa1;sb2;sc3;sd4;se5;sf6"));
    for (int at = -15; at <= 125; at++) {
      boolean good = at > 0 && at < 60 && at % 10 != 0;
      // TONE 0 is 1; it falls, if the weighted corner's tone comes below it
      if (good) six.answers("13: at", at / 10 + 1 < Math.min(9, 1 + at % 10) ? 1 : 0, "split", 0, 0, 9, at);
      else six.refuses("13: at", BAD, "split", 0, 0, 9, at);
    }
    six.refuses("13: at", BAD, "split", 0, 0, 9, 2147483647);
    six.refuses("13: at", BAD, "split", 0, 0, 9, -2147483648);
    BUSY.answers("13: the last corner, the greatest w", 1, "split", 0, 0, 9, 29);
    BUSY.refuses("13: the corner behind it", BAD, "split", 0, 0, 9, 31);
    BUSY.refuses("13: it has a WEIGHT", STATE, "split", 0, 0, 9, 11);
    BUSY.refuses("13: it has a WEIGHT", STATE, "split", 0, 2, 1, 19);
    BUSY.refuses("13: it is HELD", STATE, "split", 1, 0, 9, 11);
    BUSY.refuses("13: BAD ahead of STATE", BAD, "split", 0, 3, 9, 11);
    BUSY.refuses("13: BAD ahead of STATE", BAD, "split", 0, 0, 10, 11);
    BUSY.refuses("13: w 0, though it has a WEIGHT", BAD, "split", 0, 0, 9, 10);
    BUSY.refuses("13: no TONES, ahead of STATE", BAD, "split", 3, 0, 9, 1);
    for (int heavy = 1; heavy <= 9; heavy++) {
      PlatesSing x = Due.with("c" + heavy + ";sa9");
      for (int w = 1; w <= 9; w++) {
        boolean moves = 81 / heavy != 81 / Math.min(9, heavy + w);
        DUE.is("13: HEAVY " + heavy + " and w " + w, x.split(0, 0, 9, w), moves ? 1 : 0);
      }
      DUE.is("13: the shape is without a WEIGHT again", x.of(0, 30), 0);
    }
    PlatesSing y = Due.with("c1111;sa4;sb4;sc4;sd7");
    DUE.is("13: one of three moves", y.split(0, 0, 9, 1), 1);
    DUE.is("13: asked of another one of the three", y.split(0, 2, 9, 1), 1);
    DUE.is("13: TONE 3 is another one", y.split(0, 3, 9, 1), 0);
    // d falls from 7 to 7 / 2: TONE 0 becomes that, TONE 3 becomes 4
    DUE.is("13: a TONE from above moves in", y.split(0, 1, 1, 31), 1);
    DUE.is("13: and the highest is 4 then", y.split(0, 3, 1, 31), 1);
    PlatesSing z = Due.with("c11;sa8;sb9");
    DUE.is("13: 8 and 9 are not alike by 1", z.split(0, 0, 1, 9), 1);
    PlatesSing w = Due.with("c22;sa9;sb8");
    DUE.is("13: 9 / 2 and 4 are alike by 1, one falls", w.split(0, 1, 1, 9), 1);
    DUE.is("13: by 2 they are not, and 8 is there again", w.split(0, 0, 2, 9), 1);
  }

  // Part 5: "BOUNDS of TONE i, if STIFF of all PIECES may be more or less by d (0 .. 8; not below 1, not above 9) and HEAVY likewise"
  private static void bounds() {
    long[] good = {0, 0, 1, 0, 0};
    BUSY.bounds("14", BAD, "bounds", good, 0, 0, 2);
    BUSY.bounds("14", BAD, "bounds", good, 1, 0, 2);
    BUSY.bounds("14", BAD, "bounds", good, 2, 1, 9);
    BUSY.bounds("14", BAD, "bounds", good, 3, 0, 8);
    BUSY.bounds("14", BAD, "bounds", good, 4, 0, 1);
    BUSY.refuses("14: no TONES", BAD, "bounds", 3, 0, 1, 0, 0);
    for (int stiff = 1; stiff <= 9; stiff++) {
      for (int heavy = 1; heavy <= 9; heavy += 2) {
        PlatesSing x = Due.with("c" + heavy + "5;pab" + stiff + ";hb;sa1");
        for (int d = 0; d <= 8; d++) {
          int soft = Math.max(1, stiff - d), hard = Math.min(9, stiff + d);
          int light = Math.max(1, heavy - d), weighty = Math.min(9, heavy + d);
          DUE.is("14: least", x.bounds(0, 0, 9, d, 0), 9 * (1 + soft) / weighty);
          DUE.is("14: greatest", x.bounds(0, 0, 9, d, 1), Math.min(99, 9 * (1 + hard) / light));
        }
        DUE.is("14: as it was", x.piece(0, 0, 1, 1), stiff);
        DUE.is("14: as it was", x.of(0, 10), heavy);
      }
    }
    PlatesSing y = Due.with("c21;pab5;hb;wa3");
    y.crack(0, 0, 1, 3);
    DUE.is("14: 5 - 1 less 3, 2 + 1 and 3", y.bounds(0, 0, 9, 1, 0), 9 / 6);
    DUE.is("14: 5 - 2 less 3", y.bounds(0, 0, 9, 2, 0), 0);
    DUE.is("14: 5 - 3: the crack is STIFF then", y.bounds(0, 0, 9, 3, 0), 0);
    DUE.is("14: 5 + 4 less 3, 1 and 3", y.bounds(0, 0, 9, 4, 1), 9 * 6 / 4);
    DUE.is("14: HEAVY and WEIGHT are 9 at most", y.bounds(0, 0, 9, 8, 1), 9 * 6 / 4);
  }

  // Part 6: "for each PIECE how much SHUT falls, if it COUNTS 0 (SHUT with it less SHUT without); the PIECE with the most, of like ones the least"
  private static void led() {
    long[] good = {0, 0, 9, 0};
    BUSY.bounds("15", BAD, "led", good, 0, 0, 2);
    BUSY.bounds("15", BAD, "led", good, 1, 0, 2);
    BUSY.bounds("15", BAD, "led", good, 2, 1, 9);
    BUSY.bounds("15", BAD, "led", good, 3, 0, 1);
    BUSY.refuses("15: no PIECES", NOT, "led", 4, 0, 9, 0);
    BUSY.refuses("15: no PIECES, how much", 0, "led", 4, 0, 9, 1);
    BUSY.refuses("15: BAD ahead of NOT", BAD, "led", 4, 1, 9, 0);
    BUSY.refuses("15: BAD ahead of NOT", BAD, "led", 4, 0, 10, 0);
    BUSY.refuses("15: BAD ahead of NOT", BAD, "led", 4, 0, 9, 2);
    BUSY.refuses("15: no TONES", BAD, "led", 3, 0, 9, 0);
    PlatesSing x = new PlatesSing();
    x.body(0);
    Due.shape(x, "c1111;pab3;pac7;pad7;hb;hc;hd");
    DUE.is("15: of like ones the least, as BODY", x.led(0, 0, 1, 0), 2);
    DUE.is("15: 17 less 10", x.led(0, 0, 1, 1), 7);
    x.crack(0, 0, 2, 7);
    DUE.is("15: one that COUNTS 0 already", x.led(0, 0, 1, 0), 3);
    x.crack(0, 0, 3, 7);
    DUE.is("15: the only one that COUNTS", x.led(0, 0, 1, 0), 1);
    x.crack(0, 0, 1, 3);
    DUE.is("15: all alike, the least", x.led(0, 0, 1, 0), 1);
    DUE.is("15: none falls", x.led(0, 0, 1, 1), 0);
    // 54 by 2 is 99 and stays 99 without one of 4
    PlatesSing y = oneTone(54, 1);
    DUE.is("15: the first", y.led(0, 0, 2, 0), 0);
    DUE.is("15: 99 less 90", y.led(0, 0, 2, 1), 9);
    DUE.is("15: 99, with it and without", y.led(0, 0, 9, 1), 0);
  }

  public static void main(String[] args) {
    marks();
    arguments();
    heavyAndWeight();
    matrixOfTwo();
    zerosAmongSums();
    shutByAll();
    still();
    split();
    bounds();
    led();
    DUE.finish();
  }
}
