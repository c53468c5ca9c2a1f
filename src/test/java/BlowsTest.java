/** Promises 29 to 38. */
public final class BlowsTest {
  private static final Due DUE = new Due("BlowsTest");
  private static final int BAD = PlatesSing.BAD, STATE = PlatesSing.STATE, VOID = PlatesSing.VOID;

  private static void heardIs(String what, PlatesSing x, int ear, int... due) {
    for (int k = 0; k < due.length; k++) DUE.is(what + ", step " + (k + 1), x.heard(ear, k + 1), due[k]);
    DUE.is(what + ", step 0", x.heard(ear, 0), VOID);
    DUE.is(what + ", behind the last step", x.heard(ear, due.length + 1), VOID);
  }

  private static void steps() {
    PlatesSing x = Due.with("c1");
    x.ear(0, 0);
    DUE.is("31: a free corner flies", x.blow(0, 0, 1, 4), 32);
    heardIs("34: it flies", x, 0, 8, 16, 24, 32);
    DUE.is("31: the other way", x.blow(0, 0, -1, 3), 24);
    heardIs("34: the latest blow", x, 0, -8, -16, -24);
    DUE.is("31: none", x.blow(0, 0, 0, 2), 0);
    DUE.is("29: damp", x.damp(500), 0);
    DUE.is("31: damped, cut", x.blow(0, 0, 1, 6), 7);
    heardIs("34: damped", x, 0, 4, 6, 7, 7, 7, 7);
    DUE.is("29: damp", x.damp(0), 500);
    DUE.is("29: damp 501", x.damp(501), BAD);
    DUE.is("29: damp -1", x.damp(-1), BAD);
    DUE.is("29: as it was", x.damp(0), 0);

    PlatesSing y = Due.with("c1;sa8");
    y.ear(3, 0);
    DUE.is("31: a pad", y.blow(0, 0, 1, 6), 22);
    heardIs("34: a pad, cut toward 0", y, 3, 8, 15, 20, 22, 22, 20);
    y.put(0, 0, 1, 2);
    y.blow(0, 0, 1, 4);
    heardIs("34: a weight: 64 / 3 / 8, 128 / 3 / 8", y, 3, 8, 15, 22, 28);

    PlatesSing z = Due.with("c11;pab9");
    z.crack(0, 0, 1, 1);
    z.ear(0, 0);
    z.ear(1, 1);
    DUE.is("31: two", z.blow(0, 0, 1, 3), 20);
    heardIs("34: all at once, a", z, 0, 8, 15, 20);
    heardIs("34: all at once, b", z, 1, 0, 1, 3);
    z.put(0, 1, 2, 1);
    z.blow(0, 0, 1, 3);
    heardIs("34: b stays", z, 1, 0, 0, 0);
    heardIs("34: as with a pad", z, 0, 8, 15, 20);
    DUE.is("31: b is held", z.blow(0, 1, 1, 3), STATE);
    int[][] bad = {{1, 0, 1, 3}, {-1, 0, 1, 3}, {0, 2, 1, 3}, {0, -1, 1, 3}, {0, 0, 100, 3}, {0, 0, -100, 3},
        {0, 0, 1, 0}, {0, 0, 1, 201}, {0, 1, 100, 3}};
    for (int[] b : bad) DUE.is("31: wrong", z.blow(b[0], b[1], b[2], b[3]), BAD);
    DUE.is("31: the latest stays", z.heard(0, 3), 20);
    DUE.is("56: its steps", z.count(5), 3);
    DUE.is("31: the longest", z.blow(0, 0, 99, 200), z.loud(0, -1));
    DUE.is("34: step 200", z.heard(0, 200) == VOID ? 0 : 1, 1);
    DUE.is("56: 200 steps", z.count(5), 200);
  }

  private static void ears() {
    PlatesSing x = Due.with("c11;pab1");
    DUE.is("35: nothing was struck", x.loud(0, -1), STATE);
    DUE.is("30: ear 0", x.ear(0, 1), -1);
    DUE.is("30: ear 0 again", x.ear(0, 5), 1);
    DUE.is("30: ear 4", x.ear(4, 0), VOID);
    DUE.is("30: ear -1", x.ear(-1, 0), VOID);
    DUE.is("30: corner 6", x.ear(0, 6), VOID);
    DUE.is("30: corner -2", x.ear(0, -2), VOID);
    DUE.is("30: as it was", x.ear(0, 5), 5);
    x.ear(1, 0);
    x.blow(0, 0, 9, 2);
    DUE.is("34: at a corner that is not there", x.heard(0, 1), VOID);
    DUE.is("35: nowhere", x.loud(0, -1), STATE);
    DUE.is("36: nowhere", x.write(0, 0, 0, 1), STATE);
    DUE.is("34: at its corner", x.heard(1, 1), 72);
    x.ear(1, -1);
    DUE.is("34: of its corner then", x.heard(1, 1), 72);
    x.ear(0, 0);
    DUE.is("34: it was nowhere then", x.heard(0, 1), VOID);
    DUE.is("34: ear 4", x.heard(4, 1), VOID);
    DUE.is("34: ear -1", x.heard(-1, 1), VOID);
    DUE.is("30: its place stays behind a blow", x.ear(0, 5), 0);
    Due.shape(x, "c111111");
    x.blow(1, 5, 1, 1);
    DUE.is("34: a shape that has it", x.heard(0, 1), 8);
    DUE.is("34: now nowhere", x.heard(1, 1), VOID);
  }

  private static void louds() {
    PlatesSing x = Due.with("c1;sa8");
    x.ear(0, 0);
    x.blow(0, 0, -1, 6);
    int[] row = {-8, -15, -20, -22, -22, -20};
    heardIs("34: the other way", x, 0, row);
    DUE.is("35: loud", x.loud(0, -1), 22);
    DUE.is("35: dies at once", x.loud(0, 22), 1);
    DUE.is("35: the last one alone", x.loud(0, 20), 6);
    DUE.is("35: the last is larger", x.loud(0, 19), 6);
    DUE.is("35: by 0", x.loud(0, 0), 6);
    DUE.is("35: ear 4", x.loud(4, -1), BAD);
    DUE.is("35: what -2", x.loud(0, -2), BAD);
    DUE.is("35: BAD ahead of STATE", x.loud(1, -2), BAD);
    DUE.is("35: nowhere", x.loud(1, 5), STATE);
    x.damp(500);
    x.put(0, 0, 0, 9);
    x.blow(0, 0, 9, 60);
    int dies = x.loud(0, 20);
    boolean first = Math.abs(x.heard(0, dies)) <= 20 && Math.abs(x.heard(0, dies - 1)) > 20;
    DUE.is("35: it dies within", dies > 1 && dies < 60 && first ? 1 : 0, 1);
  }

  private static void rolls() {
    PlatesSing x = Due.with("c11;hb");
    x.ear(0, 0);
    DUE.is("33: no blow is told", x.rolled(0, 5), STATE);
    DUE.is("32: one", x.roll(0, 1, 1), 1);
    DUE.is("32: two", x.roll(0, 2, 3), 2);
    DUE.is("32: at a held one", x.roll(1, 99, 0), 3);
    DUE.is("32: at none", x.roll(5, 99, 0), 4);
    DUE.is("32: too late", x.roll(0, 99, 99), 5);
    DUE.is("32: corner 6", x.roll(6, 1, 0), BAD);
    DUE.is("32: corner -1", x.roll(-1, 1, 0), BAD);
    DUE.is("32: V 100", x.roll(0, 100, 0), BAD);
    DUE.is("32: V -100", x.roll(0, -100, 0), BAD);
    DUE.is("32: when 100", x.roll(0, 1, 100), BAD);
    DUE.is("32: when -1", x.roll(0, 1, -1), BAD);
    DUE.is("33: T 0", x.rolled(0, 0), BAD);
    DUE.is("33: T 201", x.rolled(0, 201), BAD);
    DUE.is("33: shape 1", x.rolled(1, 5), BAD);
    DUE.is("32: two at once", x.roll(0, -1, 3), 6);
    DUE.is("32: full", x.roll(0, 1, 0), PlatesSing.FULL);
    DUE.is("32: BAD ahead of FULL", x.roll(6, 1, 0), BAD);
    DUE.is("33: rolled", x.rolled(0, 5), 48);
    heardIs("33: ahead of steps 1 and 3, from 0", x, 0, 0, 8, 16, 32, 48);
    DUE.is("56: steps", x.count(5), 5);
    DUE.is("33: the list is none then", x.rolled(0, 5), STATE);
    DUE.is("32: from the start", x.roll(0, 1, 0), 1);
    x.put(0, 0, 2, 1);
    DUE.is("33: all do nothing", x.rolled(0, 5), 0);
    DUE.is("35: not even a bit", x.loud(0, -1), 0);
    x.undo();
    x.roll(0, 3, 0);
    x.roll(2, 99, 0);
    DUE.is("33: one step", x.rolled(0, 1), 24);
    DUE.is("35: of one step", x.loud(0, -1), 24);
    x.roll(0, 3, 0);
    DUE.is("31: what is told for a roll does nothing here", x.blow(0, 0, 1, 1), 8);
    DUE.is("33: it is still told", x.rolled(0, 1), 24);
  }

  private static void writing() {
    PlatesSing x = Due.with("c1");
    x.ear(0, 0);
    DUE.is("36: nothing struck", x.write(0, 0, 0, 1), STATE);
    x.blow(0, 0, -20, 3);
    DUE.is("36: nothing there", x.write(0, 0, 0, 1), -11);
    x.row(0, 0, 5);
    DUE.is("36: its steps end", x.write(0, 0, 1, 60), 3);
    int[] bytes = {0, -127, -127, -127, 0};
    for (int k = 0; k < 5; k++) DUE.is("36: least but one, " + k, x.element(0, k), bytes[k]);
    x.blow(0, 0, 5, 4);
    DUE.is("36: the row ends", x.write(0, 0, 3, 9), 2);
    DUE.is("36: it fits", x.element(0, 3), 40);
    DUE.is("36: it fits", x.element(0, 4), 80);
    DUE.is("36: n of them", x.write(0, 0, 0, 1), 1);
    DUE.is("36: the next stays", x.element(0, 1), -127);
    x.write(0, 0, 0, 4);
    DUE.is("36: the greatest", x.element(0, 3), 127);
    x.blow(0, 0, -16, 1);
    x.write(0, 0, 0, 1);
    DUE.is("36: -128 would be missing", x.element(0, 0), -127);
    x.blow(0, 0, 99, 200);
    x.row(1, 1, 60);
    x.row(2, 2, 60);
    DUE.is("36: shorts", x.write(0, 1, 0, 60), 60);
    DUE.is("36: a short is held", x.element(1, 59), 32767);
    DUE.is("36: ints", x.write(0, 2, 0, 60), 60);
    DUE.is("36: an int is not", x.element(2, 59), 60 * 792);
    x.row(3, 3, 9);
    x.row(4, 4, 9);
    x.body(0);
    x.keep(5, 0);
    DUE.is("36: longs", x.write(0, 3, 0, 1), -12);
    DUE.is("36: booleans", x.write(0, 4, 0, 1), -12);
    DUE.is("36: a body", x.write(0, 5, 0, 1), -12);
    DUE.is("36: no place", x.write(0, 1, 60, 1), -13);
    DUE.is("36: no place", x.write(0, 1, -1, 1), -13);
    DUE.is("36: -12 ahead of -13", x.write(0, 3, -1, 1), -12);
    DUE.is("36: n 0", x.write(0, 1, 0, 0), BAD);
    DUE.is("36: n 61", x.write(0, 1, 0, 61), BAD);
    DUE.is("36: shelf 6", x.write(0, 6, 0, 1), BAD);
    DUE.is("36: ear 4", x.write(4, 1, 0, 1), BAD);
    DUE.is("36: STATE ahead of -12", x.write(1, 3, 0, 1), STATE);
  }

  private static void rowOf(PlatesSing x, int shelf, int sort, long... v) {
    x.row(shelf, sort, v.length);
    for (int k = 0; k < v.length; k++) x.place(shelf, k, v[k]);
  }

  private static void tonesInRows() {
    PlatesSing x = new PlatesSing();
    rowOf(x, 0, 0, 1, 1, -1, -1, 1, 1, -1, -1);
    // period 4: signs 1 1 0 -1, of k + 1: 1 0 -1 1
    DUE.is("37: period 4", x.loudness(0, 4), 6 + 2 / 2);
    // period 2: signs 1 0; the half of 2 is no shift
    DUE.is("37: period 2", x.loudness(0, 2), 0);
    // period 8: 1 1 1 1 0 -1 -1 -1, of k + 2: 1 1 0 -1 -1 -1 1 1
    DUE.is("37: period 8", x.loudness(0, 8), 1 + 1 / 2);
    for (int n = 2; n <= 60; n++) DUE.is("37: period " + n, x.loudness(0, n), loudness(new int[] {1, 1, -1, -1, 1, 1, -1, -1}, n));
    x.place(0, 0, -128);
    DUE.is("37: missing is 0", x.loudness(0, 4), loudness(new int[] {0, 1, -1, -1, 1, 1, -1, -1}, 4));
    rowOf(x, 1, 1, -32768, 100, -32767);
    DUE.is("37: missing shorts", x.loudness(1, 60), loudness(new int[] {0, 100, -32767}, 60));
    rowOf(x, 2, 2, -2147483648, 2000000000, 2000000000);
    DUE.is("37: held", x.loudness(2, 60), 1999999999);
    rowOf(x, 2, 2, 1300000000, -2147483648);
    DUE.is("37: missing ints", x.loudness(2, 60), 1950000000);
    rowOf(x, 2, 2);
    DUE.is("37: no elements", x.loudness(2, 2), 0);
    DUE.is("38: no elements", x.strongest(2), PlatesSing.NOT);
    DUE.is("37: period 1", x.loudness(0, 1), BAD);
    DUE.is("37: period 61", x.loudness(0, 61), BAD);
    DUE.is("37: shelf 6", x.loudness(6, 2), BAD);
    DUE.is("37: nothing", x.loudness(5, 2), -11);
    DUE.is("37: BAD ahead of -11", x.loudness(5, 1), BAD);
    x.row(3, 3, 2);
    x.row(4, 4, 2);
    DUE.is("37: longs", x.loudness(3, 2), -12);
    DUE.is("37: booleans", x.loudness(4, 2), -12);
    DUE.is("38: longs", x.strongest(3), -12);
    DUE.is("38: nothing", x.strongest(5), -11);
    DUE.is("38: shelf -1", x.strongest(-1), BAD);
    x.body(2);
    x.keep(5, 0);
    DUE.is("37: a body", x.loudness(5, 2), -12);
    DUE.is("38: a body", x.strongest(5), -12);
    rowOf(x, 2, 2, 0, 0);
    DUE.is("38: of like ones the least", x.strongest(2), 2);
    rowOf(x, 2, 2, 9, 0, 0, 0, 0, 0, 0, 0, 0, 0, 1);
    DUE.is("38: quotients are cut, so these are alike", x.strongest(2), 2);
    x.row(2, 2, 60);
    for (int k = 0; k < 60; k++) x.place(2, k, k < 30 ? 100 : k == 30 ? 0 : -100);
    DUE.is("38: the longest", x.strongest(2), 60);
    rowOf(x, 2, 2, 5);
    DUE.is("38: one element", x.strongest(2), 2);
    int[] wave = new int[60];
    for (int k = 0; k < 60; k++) wave[k] = k % 12 < 6 ? 50 : -50;
    x.row(2, 1, 60);
    for (int k = 0; k < 60; k++) x.place(2, k, wave[k]);
    DUE.is("38: a wave of 12", x.strongest(2), strongest(wave));
  }

  private static int loudness(int[] row, int n) {
    int c = 0;
    int s = 0;
    for (int k = 0; k < row.length; k++) {
      int there = k % n;
      int later = (k + n / 4) % n;
      if (2 * there < n) c += row[k];
      if (2 * there > n) c -= row[k];
      if (2 * later < n) s += row[k];
      if (2 * later > n) s -= row[k];
    }
    c = Math.abs(c);
    s = Math.abs(s);
    return c >= s ? c + s / 2 : s + c / 2;
  }

  private static int strongest(int[] row) {
    int best = 0;
    int most = -1;
    for (int n = 2; n <= 60; n++) {
      if (loudness(row, n) / row.length > most) {
        most = loudness(row, n) / row.length;
        best = n;
      }
    }
    return best;
  }

  public static void main(String[] args) {
    steps();
    ears();
    louds();
    rolls();
    writing();
    tonesInRows();
    DUE.finish();
  }
}
