/** Promises 1 to 8. */
public final class ShapesTest {
  private static final Due DUE = new Due("ShapesTest");

  private static void newObject() {
    PlatesSing x = new PlatesSing();
    for (int what = 0; what <= 5; what++) DUE.is("1: count(" + what + ")", x.count(what), 0);
    DUE.is("1: digest", x.digest(), 7);
    DUE.is("1: of", x.of(0, 0), PlatesSing.VOID);
    DUE.is("1: unhear", x.unhear(), 0);
    DUE.is("1: forget", x.forget(), 0);
    DUE.is("1: unratio", x.unratio(), 0);
    DUE.is("1: undo", x.undo(), PlatesSing.STATE);
    DUE.is("1: heard", x.heard(0, 1), PlatesSing.VOID);
    for (int shelf = 0; shelf < 6; shelf++) DUE.is("1: taken", x.taken(shelf, 0), -11);
    for (int ear = 0; ear < 4; ear++) DUE.is("1: ear", x.ear(ear, -1), -1);
  }

  private static void feeding() {
    PlatesSing x = new PlatesSing();
    DUE.is("2: n 0", x.feed(0, 'c'), PlatesSing.BAD);
    DUE.is("2: n 5", x.feed(5, 'c'), PlatesSing.BAD);
    DUE.is("2: n below", x.feed(-2147483648, 'c'), PlatesSing.BAD);
    DUE.is("2: lowest first", x.feed(2, 'c' | '7' << 8 | 'x' << 16), 2);
    DUE.is("2: only n bytes count", x.shape(), 0);
    DUE.is("2: HEAVY", x.of(0, 10), 7);
    for (int k = 1; k <= 29; k++) DUE.is("2: four more", x.feed(4, -1), 4 * k);
    DUE.is("2: three more", x.feed(3, 0), 119);
    DUE.is("2: two too many", x.feed(2, 0), PlatesSing.FULL);
    DUE.is("2: BAD ahead of FULL", x.feed(5, 0), PlatesSing.BAD);
    DUE.is("2: nothing came", x.count(2), 119);
    DUE.is("2: the last", x.feed(1, 0), 120);
    DUE.is("2: none fits", x.feed(1, 0), PlatesSing.FULL);
    DUE.is("2: a byte above 127 is no sign", x.shape(), -100);
    DUE.is("2: the tape is empty", x.count(2), 0);
  }

  private static void faults() {
    String[] texts = {
      "", "0", "x", "0", "c", "1", "c0", "1", "c;", "1", "c1x", "2", "c123456", "-", "c1234567", "7", "c1;", "3",
      "c1;x", "3", "c11;p", "5", "c11;pa", "6", "c11;pab", "7", "c11;pab5", "-", "c11;pba5", "-", "c11;pab0", "7",
      "c11;pca1", "5", "c11;pac1", "6", "c11;paa1", "6", "c11;pab1;pab1", "11", "c11;pab1;pba1", "11",
      "c111;pab1;pbc1;pca1", "-", "c1;s", "4", "c1;sa", "5", "c1;sa0", "5", "c1;sb1", "4", "c1;sa1", "-",
      "c1;sa1;sa1", "8", "c1;h", "4", "c1;ha", "-", "c1;ha1", "5", "c1;ha;ha", "7", "c1;hb", "4", "c1;w", "4",
      "c1;wa9", "-", "c1;wa", "5", "c1;wa9;wa9", "8", "c1;sa1;ha;wa1", "-", "c1 ;ha", "2", " c1", "0", "C1", "0",
      "c1;;ha", "3", "c1;ha;", "6", "c1;ha;c1", "6", "c111111;pga1", "9", "c111111;pfe9", "-", "c1;P", "3",
    };
    PlatesSing x = new PlatesSing();
    int made = 0;
    for (int k = 0; k < texts.length; k += 2) {
      if (made == 12) {
        x = new PlatesSing();
        made = 0;
      }
      Due.feed(x, texts[k]);
      boolean good = texts[k + 1].equals("-");
      DUE.is("3: " + texts[k], x.shape(), good ? made : -100 - Integer.parseInt(texts[k + 1]));
      DUE.is("3: the tape is empty behind " + texts[k], x.count(2), 0);
      if (good) made++;
      DUE.is("3: shapes behind " + texts[k], x.count(0), made);
    }
  }

  private static void longestText() {
    StringBuilder s = new StringBuilder("c123456");
    for (char a = 'a'; a <= 'f'; a++) for (char b = 'a'; b < a; b++) s.append(";p").append(a).append(b).append('9');
    for (char a = 'a'; a <= 'f'; a++) s.append(";h").append(a);
    s.append(";sa1;sb2;sc3;sd4;se");
    PlatesSing x = new PlatesSing();
    Due.feed(x, s.substring(0, 119));
    DUE.is("3: it ends too early", x.shape(), -219);
    Due.feed(x, s.substring(0, 116));
    DUE.is("3: a long text", x.shape(), 0);
    DUE.is("3: pieces", x.of(0, 1), 15);
    DUE.is("3: bodies", x.count(1), 15);
  }

  private static void full() {
    PlatesSing x = new PlatesSing();
    for (int k = 0; k < 12; k++) DUE.is("3: shape " + k, Due.shape(x, "c1"), k);
    DUE.is("3: SHAPES are full", Due.shape(x, "c11"), PlatesSing.FULL);
    DUE.is("3: the tape stays", x.count(2), 3);
    DUE.is("3: and again", x.shape(), PlatesSing.FULL);
    Due.feed(x, "x");
    DUE.is("3: the fault is named first", x.shape(), -103);
    DUE.is("3: the tape is empty", x.count(2), 0);

    PlatesSing y = new PlatesSing();
    for (int k = 0; k < 198; k++) DUE.is("47: body", y.body(k % 6), k);
    DUE.is("3: BODIES would be 201", Due.shape(y, "c111;pab1;pbc1;pac1"), PlatesSing.FULL);
    DUE.is("3: no shape came", y.count(0), 0);
    DUE.is("3: no body came", y.count(1), 198);
    DUE.is("3: the tape stays", y.count(2), 19);
    Due.feed(y, "x");
    y.shape();
    DUE.is("3: BODIES are 200", Due.shape(y, "c111;pab1;pbc1"), 0);
    DUE.is("3: all of them", y.count(1), 200);
    DUE.is("3: a shape without pieces", Due.shape(y, "c1"), 1);
  }

  private static void asking() {
    PlatesSing x = Due.with("c123;pca4;pab5;sb6;wc7;ha");
    int[] asked = {0, 3, 1, 2, 2, 2, 10, 1, 11, 2, 12, 3, 20, 0, 21, 6, 22, 0, 30, 0, 31, 0, 32, 7, 40, 1, 41, 0, 42, 0};
    for (int k = 0; k < asked.length; k += 2) DUE.is("4: of " + asked[k], x.of(0, asked[k]), asked[k + 1]);
    int[] bad = {-1, 3, 9, 13, 19, 23, 33, 43, 50, 51, -10, 2147483647, -2147483648};
    for (int what : bad) DUE.is("4: of " + what, x.of(0, what), PlatesSing.VOID);
    DUE.is("4: shape 1", x.of(1, 0), PlatesSing.VOID);
    DUE.is("4: shape -1", x.of(-1, 0), PlatesSing.VOID);

    DUE.is("5: body of the first piece of the text", x.piece(0, 0, 2, 0), 0);
    DUE.is("5: body of the second", x.piece(0, 0, 1, 0), 1);
    DUE.is("5: STIFF", x.piece(0, 2, 0, 1), 4);
    DUE.is("5: STIFF", x.piece(0, 1, 0, 1), 5);
    DUE.is("5: crack", x.piece(0, 1, 0, 2), 0);
    DUE.is("5: none", x.piece(0, 1, 2, 0), PlatesSing.NOT);
    DUE.is("5: a corner and itself", x.piece(0, 1, 1, 0), PlatesSing.NOT);
    DUE.is("5: what 3, though there is none", x.piece(0, 1, 1, 3), PlatesSing.BAD);
    DUE.is("5: what -1", x.piece(0, 0, 1, -1), PlatesSing.BAD);
    DUE.is("5: corner 3", x.piece(0, 0, 3, 0), PlatesSing.BAD);
    DUE.is("5: corner -1", x.piece(0, -1, 0, 0), PlatesSing.BAD);
    DUE.is("5: shape 1", x.piece(1, 0, 1, 0), PlatesSing.BAD);
    DUE.is("5: a later shape's bodies", Due.shape(x, "c11;pab1"), 1);
    DUE.is("5: go on", x.piece(1, 0, 1, 0), 2);
  }

  private static void putting() {
    PlatesSing x = Due.with("c12;pab3;sb4");
    DUE.is("6: PAD", x.put(0, 1, 0, 9), 4);
    DUE.is("6: PAD then", x.of(0, 21), 9);
    DUE.is("6: PAD 0", x.put(0, 1, 0, 0), 9);
    DUE.is("6: WEIGHT", x.put(0, 0, 1, 5), 0);
    DUE.is("6: WEIGHT then", x.of(0, 30), 5);
    DUE.is("6: HELD", x.put(0, 0, 2, 1), 0);
    DUE.is("6: HELD then", x.of(0, 40), 1);
    DUE.is("6: a TONE less", x.of(0, 2), 1);
    DUE.is("6: as it is", x.put(0, 0, 2, 1), 1);
    DUE.is("6: no act of that", x.count(3), 4);
    int before = x.digest();
    int[][] bad = {{1, 0, 0, 1}, {-1, 0, 0, 1}, {0, 2, 0, 1}, {0, -1, 0, 1}, {0, 0, 3, 1}, {0, 0, -1, 1},
        {0, 0, 0, 10}, {0, 0, 0, -1}, {0, 0, 1, 10}, {0, 0, 2, 2}, {0, 0, 2, -1}};
    for (int[] b : bad) DUE.is("6: wrong", x.put(b[0], b[1], b[2], b[3]), PlatesSing.BAD);
    DUE.is("6: nothing changed", x.digest(), before);
    DUE.is("6: no act", x.count(3), 4);
  }

  private static void cracking() {
    PlatesSing x = Due.with("c111;pab4;pbc9");
    DUE.is("7: crack", x.crack(0, 1, 0, 3), 0);
    DUE.is("7: again", x.crack(0, 0, 1, 4), 3);
    DUE.is("7: then", x.piece(0, 0, 1, 2), 4);
    DUE.is("7: above STIFF", x.crack(0, 0, 1, 5), PlatesSing.BAD);
    DUE.is("7: all of 9", x.crack(0, 1, 2, 9), 0);
    DUE.is("7: above 9", x.crack(0, 1, 2, 10), PlatesSing.BAD);
    DUE.is("7: below 0", x.crack(0, 1, 2, -1), PlatesSing.BAD);
    DUE.is("7: no piece", x.crack(0, 0, 2, 1), PlatesSing.NOT);
    DUE.is("7: a corner and itself", x.crack(0, 0, 0, 1), PlatesSing.NOT);
    DUE.is("7: no piece and c 10", x.crack(0, 0, 2, 10), PlatesSing.BAD);
    DUE.is("7: corner 3", x.crack(0, 0, 3, 1), PlatesSing.BAD);
    DUE.is("7: shape 1", x.crack(1, 0, 1, 1), PlatesSing.BAD);
    DUE.is("7: mended", x.crack(0, 0, 1, 0), 4);
    DUE.is("7: acts", x.count(3), 4);
    DUE.is("7: STIFF stays", x.piece(0, 0, 1, 1), 4);
  }

  private static void stroking() {
    PlatesSing x = Due.with("c312;pab3;hc");
    DUE.is("8: crack", x.crack(0, 0, 1, 2), 0);
    DUE.is("8: a piece", x.stroke(0, 1, 0), 2);
    DUE.is("8: the crack stays", x.piece(0, 0, 1, 2), 2);
    DUE.is("8: once more", x.stroke(0, 0, 1), 1);
    DUE.is("8: the crack is STIFF", x.piece(0, 0, 1, 2), 1);
    DUE.is("8: it is 1", x.stroke(0, 0, 1), PlatesSing.STATE);
    DUE.is("8: a corner", x.stroke(0, 0, -1), 2);
    DUE.is("8: HEAVY then", x.of(0, 10), 2);
    DUE.is("8: a corner of 1", x.stroke(0, 1, -1), PlatesSing.STATE);
    DUE.is("8: a held one", x.stroke(0, 2, -1), 1);
    DUE.is("8: no piece", x.stroke(0, 0, 2), PlatesSing.NOT);
    DUE.is("8: a corner and itself", x.stroke(0, 1, 1), PlatesSing.NOT);
    DUE.is("8: b -2", x.stroke(0, 0, -2), PlatesSing.BAD);
    DUE.is("8: corner 3", x.stroke(0, 3, -1), PlatesSing.BAD);
    DUE.is("8: b 3", x.stroke(0, 0, 3), PlatesSing.BAD);
    DUE.is("8: shape -1", x.stroke(-1, 0, -1), PlatesSing.BAD);
    DUE.is("8: acts", x.count(3), 5);
  }

  public static void main(String[] args) {
    newObject();
    feeding();
    faults();
    longestText();
    full();
    asking();
    putting();
    cracking();
    stroking();
    DUE.finish();
  }
}
