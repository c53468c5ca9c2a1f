/** States into which an object is brought before a call is tried. */
final class Worlds {
  private Worlds() {
  }

  /**
   * Something of everything. Shapes: 0 (three corners in a row, a pad at a, a weight at b), 1 (b held), 2 (0 and 1
   * joined, as they were at first), 3 (no tones), 4 (one corner). Bodies: 0 .. 6 pieces, 7 .. 12 one of each kind.
   * Four acts may be undone, one done again. Ears 0 and 1 heard the latest blow, ear 2 was where no corner is.
   */
  static void busy(PlatesSing x) {
    Due.shape(x, "c324;pab4;pbc5;sa2;wb3");
    Due.shape(x, "c12;pab3;hb");
    x.join(0, 1, 20, 6);
    Due.shape(x, "c5;ha");
    Due.shape(x, "c2;sa4");
    for (int kind = 0; kind <= 5; kind++) x.body(kind);
    x.put(0, 0, 0, 3);
    x.crack(0, 0, 1, 1);
    x.stroke(0, 1, 2);
    x.stroke(2, 0, -1);
    x.put(0, 2, 1, 1);
    x.undo();
    x.plan(0, 0, 1, 2);
    x.plan(0, 0, -1, 1);
    x.wish(0, 9, 3);
    x.wish(1, 3, 6);
    x.hear(4);
    x.ear(0, 0);
    x.ear(1, 1);
    x.ear(2, 5);
    x.damp(20);
    x.blow(0, 0, 50, 40);
    x.ear(1, 2);
    x.roll(0, 7, 3);
    x.roll(1, -8, 30);
    x.ratio(1, 2);
    x.ratio(3, 4);
    shelves(x);
    x.act(12, 3, 5);
    Due.feed(x, "c12;pab");
  }

  /** A row of bytes, of shorts, of longs, of booleans, a body of kind 2, and nothing. */
  private static void shelves(PlatesSing x) {
    x.row(0, 0, 6);
    x.row(1, 1, 4);
    x.row(2, 3, 4);
    x.row(3, 4, 4);
    for (int shelf = 0; shelf < 4; shelf++) for (int i = 0; i < 3; i++) x.place(shelf, i, 11 * i + 4);
    x.keep(4, 9);
  }

  /** Twelve shapes: 0 has five corners and all pieces, 1 has one corner, the others are joined of both. */
  static void fullOfShapes(PlatesSing x) {
    StringBuilder text = new StringBuilder("c54321");
    for (char a = 'a'; a <= 'e'; a++) for (char b = 'a'; b < a; b++) text.append(";p").append(a).append(b).append('2');
    Due.shape(x, text.toString());
    Due.shape(x, "c3");
    for (int n = 2; n < 12; n++) x.join(0, 1, 10 * (n % 5), 1 + n % 9);
  }

  /** All that can be full is full: shapes, bodies (120 are pieces), the tape, every list, and acts to be undone. */
  static void full(PlatesSing x) {
    fullOfShapes(x);
    for (int n = x.count(1); n < 200; n++) x.body(n % 6);
    for (int k = 0; k < 20; k++) {
      x.put(0, 0, 0, 1 + k % 2);
      x.put(1, 0, 1, 1 + k % 2);
    }
    for (int b = 1; b <= 4; b++) x.plan(0, 0, b, 1);
    x.plan(0, 0, -1, 1);
    x.plan(0, 1, -1, 1);
    for (int q = 1; q <= 3; q++) x.wish(0, q, 1);
    for (int q = 7; q <= 9; q++) x.wish(1, q, 9);
    for (int k = 0; k < 6; k++) x.hear(0);
    for (int k = 0; k < 6; k++) x.roll(k, 5, k);
    for (int k = 1; k <= 6; k++) x.ratio(k, k);
    for (int k = 0; k < 30; k++) x.feed(4, 0x3b313163);
  }
}
