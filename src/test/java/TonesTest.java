/** Promises 9 to 15. */
public final class TonesTest {
  private static final Due DUE = new Due("TonesTest");
  private static final long NO_LONG = Long.MIN_VALUE;

  /** One corner of 2 with a pad of 9: its tone is 9 / 2. */
  private static void oneCorner() {
    PlatesSing x = Due.with("c2;sa9");
    DUE.is("9: below 4", x.below(0, 41, 0), 0);
    DUE.is("9: below 5", x.below(0, 51, 0), 1);
    DUE.is("9: below 9 / 2", x.below(0, 92, 0), 0);
    DUE.is("9: at 9 / 2", x.below(0, 92, 1), 1);
    DUE.is("9: at 18 / 4", x.below(0, 184, 1), 1);
    DUE.is("9: at 4", x.below(0, 41, 1), 0);
    DUE.is("10: E(0)", x.sums(0, 51, 0), 1);
    DUE.is("10: E(1) at 5", x.sums(0, 51, 1), 9 - 10);
    DUE.is("10: E(1) at 99 / 9", x.sums(0, 999, 1), 81 - 198);
    DUE.is("10: E(2)", x.sums(0, 51, 2), NO_LONG);
    DUE.is("10: E(-1)", x.sums(0, 51, -1), NO_LONG);
    DUE.is("11: by 1", x.shut(0, 0, 1), 4);
    DUE.is("11: by 2, met", x.shut(0, 0, 2), 9);
    DUE.is("11: by 9", x.shut(0, 0, 9), 40);
    DUE.is("11: by 3", x.shut(0, 0, 3), 13);
    x.put(0, 0, 1, 9);
    DUE.is("9: HEAVY and WEIGHT are 9 at most", x.below(0, 11, 1), 1);
    x.put(0, 0, 1, 1);
    DUE.is("9: HEAVY and WEIGHT", x.below(0, 31, 1), 1);
    x.put(0, 0, 2, 1);
    DUE.is("9: no tones", x.below(0, 999, 0), 0);
    DUE.is("9: E(0) is never 0", x.below(0, 31, 1), 0);
    DUE.is("10: E(0) without tones", x.sums(0, 31, 0), 1);
    DUE.is("10: no E(1)", x.sums(0, 31, 1), NO_LONG);
    DUE.is("11: no tone", x.shut(0, 0, 1), PlatesSing.BAD);
  }

  /** Three corners in a row, all 1: tones 0, 1, 3. */
  private static void aRow() {
    PlatesSing x = Due.with("c111;pab1;pbc1");
    int[] below = {0, 1, 2, 2, 3};
    int[] at = {1, 1, 0, 1, 0};
    for (int p = 0; p <= 4; p++) {
      DUE.is("9: below " + p, x.below(0, 10 * p + 1, 0), p == 1 ? 1 : below[p]);
      DUE.is("9: at " + p, x.below(0, 10 * p + 1, 1), at[p]);
    }
    DUE.is("10: E(1) at 0", x.sums(0, 1, 1), 4);
    DUE.is("10: E(2) at 0", x.sums(0, 1, 2), 3);
    DUE.is("10: E(3) at 0", x.sums(0, 1, 3), 0);
    DUE.is("10: E(3) at 2", x.sums(0, 21, 3), -2 * -1);
    DUE.is("10: E(2) at 2", x.sums(0, 21, 2), 2 - 2 - 1);
    DUE.is("11: tone 0", x.shut(0, 0, 9), 0);
    DUE.is("11: tone 1", x.shut(0, 1, 9), 9);
    DUE.is("11: tone 2", x.shut(0, 2, 9), 27);
    DUE.is("12: the middle at 1", x.still(0, 1, 11), 1);
    DUE.is("12: an end at 1", x.still(0, 0, 11), 0);
    DUE.is("12: the middle at 3", x.still(0, 1, 31), 0);
    DUE.is("12: the middle at 2, where no tone is", x.still(0, 1, 21), 0);
    DUE.is("12: corner 3", x.still(0, 3, 11), PlatesSing.BAD);
    DUE.is("12: mark 10", x.still(0, 1, 10), PlatesSing.BAD);
    DUE.is("12: shape 1", x.still(1, 1, 11), PlatesSing.BAD);
    x.put(0, 1, 2, 1);
    DUE.is("12: a held one", x.still(0, 1, 11), PlatesSing.BAD);
    DUE.is("9: two alike", x.below(0, 11, 1), 2);
    DUE.is("12: one of two alike", x.still(0, 0, 11), 0);
    int[] badMarks = {0, 10, 990, 1000, 1001, -1, -11, 2147483647, -2147483648};
    for (int mark : badMarks) {
      DUE.is("9: mark " + mark, x.below(0, mark, 0), PlatesSing.BAD);
      DUE.is("10: mark " + mark, x.sums(0, mark, 0), NO_LONG);
      DUE.is("12: mark " + mark, x.still(0, 0, mark), PlatesSing.BAD);
    }
    DUE.is("9: what 2", x.below(0, 11, 2), PlatesSing.BAD);
    DUE.is("9: what -1", x.below(0, 11, -1), PlatesSing.BAD);
    DUE.is("9: shape 1", x.below(1, 11, 0), PlatesSing.BAD);
    DUE.is("10: shape 1", x.sums(1, 11, 0), NO_LONG);
    int[][] bad = {{1, 0, 1}, {-1, 0, 1}, {0, 2, 1}, {0, -1, 1}, {0, 0, 0}, {0, 0, 10}};
    for (int[] b : bad) DUE.is("11: wrong", x.shut(b[0], b[1], b[2]), PlatesSing.BAD);
  }

  private static void highTones() {
    PlatesSing x = Due.with("c11;pab9;sa9;sb9");
    DUE.is("11: held at 99", x.shut(0, 1, 9), 99);
    DUE.is("11: 27 by 3", x.shut(0, 1, 3), 81);
    DUE.is("11: 9 by 9", x.shut(0, 0, 9), 81);
    PlatesSing y = Due.with("c999999;sa1;sb1;sc1;sd1;se1;sf1");
    long product = 1;
    for (int k = 0; k < 6; k++) product *= 9 - 99 * 9;
    DUE.is("10: the greatest E(6)", y.sums(0, 999, 6), product);
    DUE.is("10: E(1)", y.sums(0, 999, 1), 6 * (9 - 99 * 9));
    DUE.is("9: six below", y.below(0, 999, 0), 6);
    DUE.is("9: six at 1 / 9", y.below(0, 19, 1), 6);
  }

  /** Each of six corners tied to all others by 2: A has once - 3 p, and five times 12 q - 3 p. */
  private static void allTied() {
    StringBuilder text = new StringBuilder("c333333");
    for (char a = 'a'; a <= 'f'; a++) for (char b = 'a'; b < a; b++) text.append(";p").append(a).append(b).append('2');
    PlatesSing x = Due.with(text.toString());
    for (int mark : new int[] {1, 11, 399, 403, 57, 999}) {
      long once = -3 * (mark / 10);
      long five = 12 * (mark % 10) + once;
      long[] choose = {1, 5, 10, 10, 5, 1, 0};
      long power = 1;
      long before = 0;
      for (int k = 0; k <= 6; k++) {
        DUE.is("10: E(" + k + ") for " + mark, x.sums(0, mark, k), choose[k] * power + once * before);
        before = choose[k] * power;
        power *= five;
      }
      DUE.is("9: below " + mark, x.below(0, mark, 0), (once < 0 ? 1 : 0) + (five < 0 ? 5 : 0));
      DUE.is("9: at " + mark, x.below(0, mark, 1), (once == 0 ? 1 : 0) + (five == 0 ? 5 : 0));
    }
    DUE.is("11: the highest", x.shut(0, 5, 9), 36);
    DUE.is("12: no corner is still where five are alike", x.still(0, 0, 41), 0);
    PlatesSing y = Due.with("c1111;pab1;sc1;sd1;hb");
    DUE.is("12: held, more are left than before", y.still(0, 0, 11), 0);
    PlatesSing z = Due.with("c11111;pab1;pac1;pad1;pae1");
    DUE.is("9: a star: three alike", z.below(0, 11, 1), 3);
    DUE.is("12: held, four are at 1: more than three", z.still(0, 0, 11), 1);
    DUE.is("12: a tip", z.still(0, 1, 11), 0);
    PlatesSing w = Due.with("c11;sa1;sb2");
    DUE.is("12: held, as many are left as before", w.still(0, 1, 11), 1);
    DUE.is("12: it sounds itself", w.still(0, 0, 11), 0);
  }

  /** A ring of four: tones 0, 2, 2, 4. */
  private static void splitting() {
    PlatesSing x = Due.with("c1111;pab1;pbc1;pcd1;pda1;hd");
    x.put(0, 3, 2, 0);
    DUE.is("13: two alike, one moves", x.split(0, 1, 9, 1), 1);
    DUE.is("13: the same of the other one", x.split(0, 2, 9, 1), 1);
    DUE.is("13: the lowest stays 0", x.split(0, 0, 9, 9), 0);
    DUE.is("13: the highest falls", x.split(0, 3, 9, 9), 1);
    x.put(0, 0, 0, 9);
    DUE.is("13: the lowest falls, too", x.split(0, 0, 9, 9), 1);
    x.undo();
    DUE.is("13: w 0", x.split(0, 0, 9, 10), PlatesSing.BAD);
    DUE.is("13: corner 4", x.split(0, 0, 9, 41), PlatesSing.BAD);
    DUE.is("13: three digits", x.split(0, 0, 9, 101), PlatesSing.BAD);
    DUE.is("13: below 0", x.split(0, 0, 9, -1), PlatesSing.BAD);
    DUE.is("13: tone 4", x.split(0, 4, 9, 1), PlatesSing.BAD);
    DUE.is("13: q 0", x.split(0, 0, 0, 1), PlatesSing.BAD);
    DUE.is("13: shape 1", x.split(1, 0, 9, 1), PlatesSing.BAD);
    x.put(0, 1, 1, 1);
    DUE.is("13: it has a weight", x.split(0, 0, 9, 11), PlatesSing.STATE);
    x.put(0, 2, 2, 1);
    DUE.is("13: it is held", x.split(0, 0, 9, 21), PlatesSing.STATE);
    DUE.is("13: BAD ahead of STATE", x.split(0, 3, 9, 21), PlatesSing.BAD);
    DUE.is("13: the shape is as it was", x.of(0, 30), 0);
  }

  /** One corner of 4 between a held one by 5 and a pad of 2: its tone is 7 / 4. */
  private static void bounding() {
    PlatesSing x = Due.with("c41;pab5;sa2;hb");
    DUE.is("14: as it is", x.bounds(0, 0, 8, 0, 0), 14);
    DUE.is("14: as it is", x.bounds(0, 0, 8, 0, 1), 14);
    DUE.is("14: least", x.bounds(0, 0, 9, 2, 0), 9 * 5 / 6);
    DUE.is("14: greatest", x.bounds(0, 0, 9, 2, 1), 9 * 9 / 2);
    DUE.is("14: least, not below 1, not above 9", x.bounds(0, 0, 9, 8, 0), 9 * 3 / 9);
    DUE.is("14: greatest, not above 9, not below 1", x.bounds(0, 0, 9, 8, 1), 99);
    x.crack(0, 0, 1, 4);
    DUE.is("14: a crack of more than STIFF is STIFF then", x.bounds(0, 0, 9, 2, 0), 9 * 2 / 6);
    DUE.is("14: the crack stays", x.bounds(0, 0, 9, 2, 1), 9 * 5 / 2);
    x.put(0, 0, 1, 5);
    DUE.is("14: with a weight", x.bounds(0, 0, 9, 3, 1), 9 * 6 / 6);
    DUE.is("14: d 9", x.bounds(0, 0, 9, 9, 0), PlatesSing.BAD);
    DUE.is("14: d -1", x.bounds(0, 0, 9, -1, 0), PlatesSing.BAD);
    DUE.is("14: what 2", x.bounds(0, 0, 9, 1, 2), PlatesSing.BAD);
    DUE.is("14: tone 1", x.bounds(0, 1, 9, 1, 0), PlatesSing.BAD);
    DUE.is("14: q 10", x.bounds(0, 0, 10, 1, 0), PlatesSing.BAD);
    DUE.is("14: shape 1", x.bounds(1, 0, 9, 1, 0), PlatesSing.BAD);
    DUE.is("14: the shape is as it was", x.piece(0, 0, 1, 1), 5);
  }

  private static void leading() {
    PlatesSing x = Due.with("c11111;pab2;pac5;pad5;hb;hc;hd");
    DUE.is("15: of like ones the least", x.led(0, 0, 1, 0), 0);
    DUE.is("15: how much", x.led(0, 0, 1, 1), 0);
    DUE.is("15: the tone of e is 0", x.shut(0, 0, 1), 0);
    DUE.is("15: the first of 5", x.led(0, 1, 1, 0), 1);
    DUE.is("15: how much", x.led(0, 1, 1, 1), 5);
    x.crack(0, 0, 2, 4);
    DUE.is("15: a cracked one leads less", x.led(0, 1, 1, 0), 2);
    x.crack(0, 0, 3, 5);
    DUE.is("15: by 2", x.led(0, 1, 9, 0), 0);
    DUE.is("15: by 2", x.led(0, 1, 9, 1), 18);
    DUE.is("15: what 2", x.led(0, 1, 9, 2), PlatesSing.BAD);
    DUE.is("15: tone 2", x.led(0, 2, 9, 0), PlatesSing.BAD);
    DUE.is("15: q 0", x.led(0, 1, 0, 0), PlatesSing.BAD);
    DUE.is("15: shape 1", x.led(1, 1, 9, 0), PlatesSing.BAD);
    Due.shape(x, "c1;sa1");
    DUE.is("15: no pieces", x.led(1, 0, 9, 0), PlatesSing.NOT);
    DUE.is("15: no pieces, how much", x.led(1, 0, 9, 1), 0);
    DUE.is("15: BAD ahead of NOT", x.led(1, 1, 9, 0), PlatesSing.BAD);
  }

  public static void main(String[] args) {
    oneCorner();
    aRow();
    highTones();
    allTied();
    splitting();
    bounding();
    leading();
    DUE.finish();
  }
}
