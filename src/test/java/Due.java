/** Counts answers that are not as due; a test's main ends with finish(). */
final class Due {
  private final String test;
  private int looked = 0;
  private int wrong = 0;

  Due(String test) {
    this.test = test;
  }

  void is(String what, long got, long due) {
    looked++;
    if (got == due) return;
    wrong++;
    System.out.println(test + ": " + what + " answered " + got + ", due is " + due);
  }

  /** Feeds a text, up to four bytes a call. */
  static void feed(PlatesSing x, String text) {
    for (int i = 0; i < text.length(); i += 4) {
      int n = Math.min(4, text.length() - i);
      int v = 0;
      for (int k = 0; k < n; k++) v |= (text.charAt(i + k) & 255) << 8 * k;
      if (x.feed(n, v) < 0) throw new IllegalStateException("the tape took no " + text);
    }
  }

  /** A new shape of a text: what shape() answers. */
  static int shape(PlatesSing x, String text) {
    feed(x, text);
    return x.shape();
  }

  /** A new object with one shape. */
  static PlatesSing with(String text) {
    PlatesSing x = new PlatesSing();
    if (shape(x, text) != 0) throw new IllegalStateException("no shape of " + text);
    return x;
  }

  void finish() {
    System.out.println(test + ": " + looked + " answers, " + wrong + " not as due");
    if (wrong != 0 || looked == 0) System.exit(1);
  }
}
