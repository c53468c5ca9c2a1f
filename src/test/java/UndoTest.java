/** Promises 44 to 46. */
public final class UndoTest {
  private static final Due DUE = new Due("UndoTest");
  private static final int STATE = PlatesSing.STATE;

  private static int digestOf(int... values) {
    int h = 7;
    for (int v : values) h = 31 * h + v;
    return h;
  }

  private static void digests() {
    PlatesSing x = Due.with("c12;pba3;sa4;wb5;hb");
    DUE.is("46: one shape", x.digest(), digestOf(1, 4, 0, 0, 2, 0, 5, 1, 0, 1, 3, 0));
    x.crack(0, 0, 1, 2);
    DUE.is("46: a crack", x.digest(), digestOf(1, 4, 0, 0, 2, 0, 5, 1, 0, 1, 3, 2));
    Due.shape(x, "c777;pca8;pcb9");
    DUE.is("46: two shapes", x.digest(), digestOf(1, 4, 0, 0, 2, 0, 5, 1, 0, 1, 3, 2,
        7, 0, 0, 0, 7, 0, 0, 0, 7, 0, 0, 0, 0, 2, 8, 0, 1, 2, 9, 0));
  }

  private static void backAndForth() {
    PlatesSing x = Due.with("c33;pab3");
    Due.shape(x, "c3");
    int[] digests = new int[8];
    digests[0] = x.digest();
    x.put(0, 0, 0, 7);
    digests[1] = x.digest();
    x.put(0, 1, 1, 7);
    digests[2] = x.digest();
    x.put(1, 0, 2, 1);
    digests[3] = x.digest();
    x.crack(0, 0, 1, 3);
    digests[4] = x.digest();
    x.stroke(0, 0, 1);
    digests[5] = x.digest();
    x.stroke(1, 0, -1);
    digests[6] = x.digest();
    x.stroke(0, 1, -1);
    digests[7] = x.digest();
    DUE.is("56: acts", x.count(3), 7);
    DUE.is("45: none was undone", x.redo(), STATE);
    for (int k = 6; k >= 0; k--) {
      DUE.is("44: may still be", x.undo(), k);
      DUE.is("44: digest " + k, x.digest(), digests[k]);
    }
    DUE.is("44: none is left", x.undo(), STATE);
    for (int k = 1; k <= 7; k++) {
      DUE.is("45: may still be", x.redo(), 7 - k);
      DUE.is("45: digest " + k, x.digest(), digests[k]);
    }
    DUE.is("45: none is left", x.redo(), STATE);
    x.undo();
    x.undo();
    x.put(0, 0, 0, 7);
    DUE.is("45: what changed nothing came not behind", x.redo(), 1);
    x.put(0, 0, 0, 99);
    x.crack(0, 0, 0, 1);
    DUE.is("45: nor what was refused", x.redo(), 0);
    x.undo();
    x.put(0, 0, 0, 8);
    DUE.is("45: an act came behind it", x.redo(), STATE);
    DUE.is("56: acts", x.count(3), 7);
    DUE.is("44: that act", x.undo(), 6);
    DUE.is("44: its pad", x.of(0, 20), 7);
  }

  private static void fortyAreKept() {
    PlatesSing x = Due.with("c1");
    for (int k = 1; k <= 45; k++) x.put(0, 0, 0, k % 10);
    DUE.is("56: 40 are kept", x.count(3), 40);
    for (int k = 39; k >= 0; k--) DUE.is("44: undone", x.undo(), k);
    DUE.is("44: the oldest went", x.undo(), STATE);
    DUE.is("44: what the fifth put", x.of(0, 20), 5);
    for (int k = 39; k >= 0; k--) DUE.is("45: done again", x.redo(), k);
    DUE.is("45: what the last put", x.of(0, 20), 5);
    x.put(0, 0, 1, 3);
    DUE.is("56: still 40", x.count(3), 40);
    x.undo();
    DUE.is("44: the weight", x.of(0, 30), 0);
    DUE.is("44: the pad", x.of(0, 20), 5);
  }

  public static void main(String[] args) {
    digests();
    backAndForth();
    fortyAreKept();
    DUE.finish();
  }
}
