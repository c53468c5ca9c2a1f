/** Every edge that part 1 and the promises 1 to 8 name; in front of each test the words that it is for. */
public final class EdgesOfShapesTest {
  private static final Due DUE = new Due("EdgesOfShapesTest");
  private static final int BAD = PlatesSing.BAD, NOT = PlatesSing.NOT, FULL = PlatesSing.FULL;
  private static final int STATE = PlatesSing.STATE, VOID = PlatesSing.VOID;
  private static final Edges BUSY = new Edges(DUE, Worlds::busy);
  private static final Edges FULL_UP = new Edges(DUE, Worlds::full);
  private static final String DIGITS = "123456789";

  // Promise 1: "No shapes, nothing heard."
  private static void newObject() {
    PlatesSing x = new PlatesSing();
    DUE.is("1: no shapes", x.count(0), 0);
    DUE.is("1: not even shape 0", x.turnsOf(0), BAD);
    DUE.is("1: no bodies", x.keep(0, 0), BAD);
    DUE.is("1: an empty tape", x.count(2), 0);
    DUE.is("1: its fault is at its length, 0", x.shape(), -100);
    DUE.is("1: no acts to undo", x.undo(), STATE);
    DUE.is("1: none to do again", x.redo(), STATE);
    DUE.is("1: no act ran", x.trace(0), BAD);
    DUE.is("1: nothing struck", x.loud(0, -1), STATE);
    DUE.is("1: no steps", x.count(5), 0);
    DUE.is("1: nothing told for a roll", x.roll(0, 1, 0), 1);
    DUE.is("1: no damp", x.damp(7), 0);
    for (int ear = 0; ear < 4; ear++) DUE.is("1: ears are nowhere", x.ear(ear, 0), -1);
    DUE.is("1: nothing heard", x.unhear(), 0);
    DUE.is("1: no strokes", x.forget(), 0);
    DUE.is("1: no ratios", x.unratio(), 0);
    for (int shelf = 0; shelf < 6; shelf++) DUE.is("1: shelves hold nothing", x.place(shelf, 0, 1), -11);
    DUE.is("1: the digest of no shapes", x.digest(), 7);
  }

  // Promise 2: "n (1 .. 4) bytes come to THE TAPE, the lowest of v first: how many it has. BAD, FULL."
  private static void bytesThatCome() {
    BUSY.bounds("2", BAD, "feed", new long[] {1, 'x'}, 0, 1, 4);
    FULL_UP.bounds("2, BAD ahead of FULL", BAD, "feed", new long[] {1, 'x'}, 0, 1, 4);
    int v = 'c' | '1' << 8 | '2' << 16 | '3' << 24;
    for (int n = 1; n <= 4; n++) {
      PlatesSing x = new PlatesSing();
      DUE.is("2: how many it has", x.feed(n, v), n);
      DUE.is("2: n bytes, the lowest first", x.shape(), n == 1 ? -101 : 0);
      for (int k = 0; k < n - 1; k++) DUE.is("2: HEAVY", x.of(0, 10 + k), k + 1);
      DUE.is("2: no more than n", x.of(0, 10 + n - 1), VOID);
    }
    PlatesSing y = new PlatesSing();
    DUE.is("2: the least v", y.feed(4, -2147483648), 4);
    DUE.is("2: the greatest v", y.feed(4, 2147483647), 8);
    DUE.is("2: -1", y.feed(1, -1), 9);
  }

  // Part 1: "THE TAPE (at most 120 bytes)"
  private static void fullTape() {
    for (int n = 1; n <= 4; n++) {
      int room = n;
      Edges justRoom = new Edges(DUE, x -> fill(x, 120 - room));
      justRoom.answers("2: the last " + n, 120, "feed", n, -1);
      Edges oneShort = new Edges(DUE, x -> fill(x, 121 - room));
      oneShort.refuses("2: one too many, and none of " + n + " comes", FULL, "feed", n, -1);
      FULL_UP.refuses("2: the tape is full", FULL, "feed", n, 0);
    }
    String text = "c123456;pab1;pac1;pad1;pae1;paf1;pbc1;pbd1;pbe1;pbf1;pcd1;pce1;pcf1;pde1"
        + ";sa1;sb1;sc1;sd1;wa1;wb1;wc1;wd1;we1;ha;hb;hc;hd";
    PlatesSing x = new PlatesSing();
    Due.feed(x, text);
    DUE.is("2: a text of 120 bytes", x.count(2), 120);
    DUE.is("3: 120 bytes", x.shape(), 0);
    DUE.is("3: the last of them was read", x.of(0, 43), 1);
    Due.feed(x, text.substring(0, 118) + "ha");
    DUE.is("3: the last byte is the fault", x.shape(), -219);
    Due.feed(x, text.substring(0, 119));
    DUE.is("3: 119 bytes that end too early", x.shape(), -219);
    Due.feed(x, text.substring(0, 114) + ";wf1;p");
    DUE.is("3: 120 bytes that end too early", x.shape(), -220);
  }

  private static void fill(PlatesSing x, int bytes) {
    for (int k = 0; k + 4 <= bytes; k += 4) x.feed(4, 0x3b313163);
    if (bytes % 4 != 0) x.feed(bytes % 4, 0x313163);
  }

  /** After a beginning exactly these bytes go on; any other one is the FAULT, at its place. */
  private static void goesOn(String beginning, String allowed) {
    for (int b = 0; b < 256; b++) {
      PlatesSing x = new PlatesSing();
      Due.feed(x, beginning + (char) b);
      int answer = x.shape();
      int fault = -100 - beginning.length();
      boolean good = allowed.indexOf(b) >= 0;
      if (good) DUE.is("3: \"" + beginning + "\" goes on with " + b, answer == fault ? 1 : 0, 0);
      else DUE.is("3: \"" + beginning + "\" does not go on with " + b, answer, fault);
      DUE.is("3: THE TAPE is empty then", x.count(2), 0);
      DUE.is("3: a shape only without a fault", x.count(0), answer >= 0 ? 1 : 0);
    }
  }

  // Part 1, the text of a shape: each of its bytes, one by one
  private static void eachByteOfAText() {
    // "The first: c, then a digit 1 .. 9 for each CORNER (1 to 6 of them): HEAVY."
    goesOn("", "c");
    goesOn("c", DIGITS);
    goesOn("c1", DIGITS + ";");
    goesOn("c12345", DIGITS + ";");
    goesOn("c123456", ";");
    // "PARTS of the text parted by ;" "Others: p, .. s, .. h, .. w"
    goesOn("c12;", "pshw");
    // "p, two letters a .. f (two CORNERS that are there, not one and the same, nor two that have a PIECE)"
    goesOn("c1;p", "a");
    goesOn("c12;p", "ab");
    goesOn("c123456;p", "abcdef");
    goesOn("c123456;pa", "bcdef");
    goesOn("c123456;pf", "abcde");
    goesOn("c12;pb", "a");
    goesOn("c1234;pab1;pa", "cd");
    goesOn("c1234;pab1;pb", "cd");
    goesOn("c1234;pba1;pa", "cd");
    goesOn("c1234;pba1;pb", "cd");
    goesOn("c1234;pab1;pac2;pa", "d");
    // "a digit 1 .. 9: STIFF"
    goesOn("c12;pab", DIGITS);
    goesOn("c12;pab1", ";");
    // "s, a letter, a digit 1 .. 9: PAD", "of PAD, HELD, WEIGHT at most one each of a CORNER"
    goesOn("c12;s", "ab");
    goesOn("c123456;s", "abcdef");
    goesOn("c12;sa", DIGITS);
    goesOn("c12;sa1", ";");
    goesOn("c12;sa1;s", "b");
    goesOn("c12;sb1;s", "a");
    goesOn("c12;sa1;w", "ab");
    goesOn("c12;sa1;h", "ab");
    // "h, a letter: HELD"
    goesOn("c12;h", "ab");
    goesOn("c123456;h", "abcdef");
    goesOn("c12;ha", ";");
    goesOn("c12;ha;h", "b");
    goesOn("c12;ha;s", "ab");
    goesOn("c12;ha;w", "ab");
    goesOn("c12;ha;p", "ab");
    // "w, a letter, a digit 1 .. 9: WEIGHT"
    goesOn("c12;w", "ab");
    goesOn("c123456;w", "abcdef");
    goesOn("c12;wa", DIGITS);
    goesOn("c12;wa1", ";");
    goesOn("c12;wa1;w", "b");
    goesOn("c12;wa1;s", "ab");
    goesOn("c12;wa1;h", "ab");
  }

  // "FAULT: the place (from 0) of the first byte with which no text goes on; the length, if it ends too early."
  private static void endsTooEarly() {
    String text = "c123;pab4;sb5;hc;wa6";
    String ends = "1,4,9,13,16,20,";
    for (int length = 0; length <= text.length(); length++) {
      PlatesSing x = new PlatesSing();
      Due.feed(x, text.substring(0, length));
      boolean whole = length >= 2 && length <= 4 || length > 4 && ends.contains("," + length + ",");
      DUE.is("3: the first " + length + " bytes", x.shape(), whole ? 0 : -100 - length);
      DUE.is("3: THE TAPE is empty then", x.count(2), 0);
    }
    PlatesSing y = new PlatesSing();
    Due.feed(y, "c12;pxy;q");
    DUE.is("3: of several faults the first", y.shape(), -105);
    DUE.is("3: nothing of it became a shape", y.count(0), 0);
    DUE.is("3: nor a body", y.count(1), 0);
    DUE.is("3: the next text begins anew", Due.shape(y, "c12;pab1"), 0);
    String[] faults = {"c123456;", "c1234;pab9;pcd9;x", "c12;sa1;sb1;x", "c12;ha;hb;x", "c12;wa9;wb9;x", "x", ""};
    for (String fault : faults) {
      PlatesSing x = new PlatesSing();
      Due.shape(x, fault);
      DUE.is("3: no CORNERS, behind " + fault, Due.shape(x, "c"), -101);
      Due.shape(x, fault);
      DUE.is("3: a CORNER that was there in " + fault, Due.shape(x, "c1;sb1"), -104);
      Due.shape(x, fault);
      DUE.is("3: all anew behind " + fault, Due.shape(x, "c12;pab3;sa4;wb5"), 0);
      int[] due = {2, 1, 2, 1, 2, 4, 0, 0, 5, 0, 0};
      int[] what = {0, 1, 2, 10, 11, 20, 21, 30, 31, 40, 41};
      for (int k = 0; k < what.length; k++) DUE.is("4: " + what[k] + " behind " + fault, x.of(0, what[k]), due[k]);
      DUE.is("5: no crack behind " + fault, x.piece(0, 0, 1, 2), 0);
      DUE.is("5: STIFF behind " + fault, x.piece(0, 1, 0, 1), 3);
    }
  }

  // "each HEAVY 1 .. 9, with a PAD 0 .. 9, a WEIGHT 0 .. 9, HELD or not", "each STIFF 1 .. 9"
  private static void leastAndGreatestInTexts() {
    PlatesSing x = new PlatesSing();
    DUE.is("3: a text of the least", Due.shape(x, "c11;pab1;sa1;wa1"), 0);
    DUE.is("3: a text of the greatest", Due.shape(x, "c99;pab9;sb9;wb9;ha"), 1);
    int[] least = {2, 1, 2, 1, 1, 1, 0, 1, 0, 0, 0};
    int[] greatest = {2, 1, 1, 9, 9, 0, 9, 0, 9, 1, 0};
    int[] what = {0, 1, 2, 10, 11, 20, 21, 30, 31, 40, 41};
    for (int k = 0; k < what.length; k++) {
      DUE.is("4: of the least, " + what[k], x.of(0, what[k]), least[k]);
      DUE.is("4: of the greatest, " + what[k], x.of(1, what[k]), greatest[k]);
    }
    DUE.is("5: the least STIFF", x.piece(0, 0, 1, 1), 1);
    DUE.is("5: the greatest STIFF", x.piece(1, 0, 1, 1), 9);
    DUE.is("5: no crack", x.piece(1, 0, 1, 2), 0);
  }

  // Promise 3: "FULL (SHAPES, or BODIES would be more than 200; THE TAPE stays)"; part 1: "SHAPES 0 .. 11, as they come"
  private static void fullOfShapes() {
    PlatesSing x = new PlatesSing();
    for (int n = 0; n < 12; n++) DUE.is("3: as they come", Due.shape(x, "c" + (1 + n % 9)), n);
    DUE.is("4: shape 11 is there", x.of(11, 10), 3);
    DUE.is("4: shape 12 is not", x.of(12, 10), VOID);
    Edges twelve = new Edges(DUE, y -> {
      Worlds.fullOfShapes(y);
      Due.feed(y, "c12");
    });
    twelve.refuses("3: SHAPES are full, THE TAPE stays", FULL, "shape");
    FULL_UP.answers("3: a FAULT is named ahead of FULL", -104, "shape");
    Edges room = new Edges(DUE, y -> bodies(y, 197, "c123;pab4;pbc5;pca6"));
    room.answers("3: BODIES are 200 then", 0, "shape");
    Edges none = new Edges(DUE, y -> bodies(y, 198, "c123;pab4;pbc5;pca6"));
    none.refuses("3: BODIES would be 201, THE TAPE stays", FULL, "shape");
    Edges noPieces = new Edges(DUE, y -> bodies(y, 200, "c123"));
    noPieces.answers("3: a shape without pieces needs none", 0, "shape");
    Edges onePiece = new Edges(DUE, y -> bodies(y, 200, "c123;pab4"));
    onePiece.refuses("3: BODIES would be 201", FULL, "shape");
  }

  private static void bodies(PlatesSing x, int n, String text) {
    for (int k = 0; k < n; k++) x.body(k % 6);
    Due.feed(x, text);
  }

  // Promise 4: "0 CORNERS, 1 PIECES, 2 TONES; 10 and CORNER: HEAVY, 20: PAD, 30: WEIGHT, 40: HELD (1, 0). VOID: BAD."
  private static void ofEach() {
    BUSY.bounds("4", VOID, "of", new long[] {0, 0}, 0, 0, 4);
    BUSY.bounds("4", VOID, "of", new long[] {0, 0}, 1, 0, 2);
    for (int corners = 1; corners <= 6; corners++) {
      String text = "c987654".substring(0, corners + 1);
      Edges e = new Edges(DUE, x -> Due.shape(x, text));
      for (int tens = 10; tens <= 40; tens += 10) {
        e.answers("4: the last corner", tens == 10 ? 10 - corners : 0, "of", 0, tens + corners - 1);
        e.refuses("4: a corner that is not there", VOID, "of", 0, tens + corners);
        e.refuses("4: a corner that is not there", VOID, "of", 0, tens + 9);
      }
      e.answers("4: corners", corners, "of", 0, 0);
      e.answers("4: no pieces", 0, "of", 0, 1);
      e.answers("4: tones", corners, "of", 0, 2);
    }
    BUSY.refusesAll("4", VOID, "of", new long[][] {{0, 3}, {0, 9}, {0, 50}, {0, 51}, {0, 100}, {0, 110}, {0, -10}, {0, -11},
        {5, 0}, {5, 10}});
    BUSY.answers("4: no TONES, where all is HELD", 0, "of", 3, 2);
  }

  // Promise 5: "0 its BODY, 1 STIFF, 2 crack. BAD; NOT: there is none (a CORNER and itself, too, here and further on)."
  private static void pieceOfTwo() {
    long[] good = {0, 0, 1, 1};
    BUSY.bounds("5", BAD, "piece", good, 0, 0, 2);
    BUSY.refuses("5: the last shape has one CORNER", NOT, "piece", 4, 0, 0, 1);
    BUSY.refuses("5: there is no shape behind it", BAD, "piece", 5, 0, 0, 1);
    BUSY.bounds("5", BAD, "piece", good, 1, 0, 2);
    BUSY.bounds("5", BAD, "piece", good, 2, 0, 2);
    BUSY.bounds("5", BAD, "piece", good, 3, 0, 2);
    BUSY.refuses("5: there is none", NOT, "piece", 0, 0, 2, 0);
    BUSY.refuses("5: there is none the other way", NOT, "piece", 0, 2, 0, 2);
    for (int c = 0; c < 3; c++) BUSY.refuses("5: a CORNER and itself", NOT, "piece", 0, c, c, 1);
    BUSY.refuses("5: BAD ahead of NOT", BAD, "piece", 0, 0, 2, 3);
    BUSY.refuses("5: BAD ahead of NOT", BAD, "piece", 0, 3, 3, 0);
    BUSY.answers("5: the first BODY", 0, "piece", 0, 0, 1, 0);
    BUSY.answers("5: the last BODY of a joined one", 6, "piece", 2, 2, 3, 0);
    BUSY.answers("5: the other way", 6, "piece", 2, 3, 2, 0);
  }

  // Promise 6: "PAD (what 0), WEIGHT (1), HELD (2; v 0, 1) of a CORNER becomes v (0 .. 9): what it was. BAD."
  private static void putEach() {
    BUSY.bounds("6", BAD, "put", new long[] {0, 0, 0, 1}, 0, 0, 4);
    BUSY.bounds("6", BAD, "put", new long[] {0, 0, 0, 1}, 1, 0, 2);
    BUSY.bounds("6", BAD, "put", new long[] {0, 0, 0, 1}, 2, 0, 2);
    BUSY.bounds("6: PAD", BAD, "put", new long[] {0, 1, 0, 1}, 3, 0, 9);
    BUSY.bounds("6: WEIGHT", BAD, "put", new long[] {0, 1, 1, 1}, 3, 0, 9);
    BUSY.bounds("6: HELD", BAD, "put", new long[] {0, 1, 2, 1}, 3, 0, 1);
    int[] greatest = {9, 9, 1};
    for (int what = 0; what <= 2; what++) {
      PlatesSing x = Due.with("c12");
      DUE.is("6: what it was at first", x.put(0, 1, what, greatest[what]), 0);
      DUE.is("6: the greatest", x.of(0, 21 + 10 * what), greatest[what]);
      DUE.is("6: the greatest is what it was", x.put(0, 1, what, 0), greatest[what]);
      DUE.is("6: the least", x.of(0, 21 + 10 * what), 0);
      for (int other = 20; other < 50; other += 10) DUE.is("6: not of the other corner", x.of(0, other), 0);
    }
    // what becomes as it was is no refusal, and no act
    BUSY.refuses("6: as it is", 3, "put", 0, 0, 0, 3);
    BUSY.refuses("6: as it is", 0, "put", 0, 2, 2, 0);
  }

  // Promise 7: "BAD (c is not 0 .. 9); NOT: none; BAD (c above STIFF)"; part 1: "CRACKED by c (0 .. STIFF)"
  private static void crackEach() {
    BUSY.bounds("7", BAD, "crack", new long[] {0, 0, 1, 1}, 1, 0, 2);
    BUSY.bounds("7", BAD, "crack", new long[] {0, 0, 1, 1}, 2, 0, 2);
    BUSY.bounds("7", BAD, "crack", new long[] {0, 0, 1, 1}, 0, 0, 2);
    BUSY.bounds("7: STIFF is 4", BAD, "crack", new long[] {0, 0, 1, 1}, 3, 0, 4);
    BUSY.refuses("7: none", NOT, "crack", 0, 0, 2, 1);
    BUSY.refuses("7: a CORNER and itself", NOT, "crack", 0, 1, 1, 0);
    BUSY.refuses("7: NOT for any c 0 .. 9", NOT, "crack", 0, 0, 2, 9);
    BUSY.refuses("7: NOT for any c 0 .. 9", NOT, "crack", 0, 2, 0, 0);
    BUSY.refuses("7: c is not 0 .. 9, ahead of NOT", BAD, "crack", 0, 0, 2, 10);
    BUSY.refuses("7: c is not 0 .. 9, ahead of NOT", BAD, "crack", 0, 0, 2, -1);
    for (int stiff = 1; stiff <= 9; stiff++) {
      int s = stiff;
      Edges e = new Edges(DUE, x -> Due.shape(x, "c11;pab" + s));
      e.bounds("7: STIFF " + stiff, BAD, "crack", new long[] {0, 0, 1, 0}, 3, 0, stiff);
      PlatesSing x = e.make();
      DUE.is("7: by all of it", x.crack(0, 1, 0, stiff), 0);
      DUE.is("7: STIFF stays", x.piece(0, 0, 1, 1), stiff);
      DUE.is("7: it is cracked", x.piece(0, 0, 1, 2), stiff);
      DUE.is("9: it COUNTS 0", x.sums(0, 1, 1), 0);
      DUE.is("7: what it was", x.crack(0, 0, 1, stiff - 1), stiff);
      DUE.is("9: it COUNTS STIFF less c", x.sums(0, 1, 1), 2);
    }
    BUSY.refuses("7: as it is", 1, "crack", 0, 0, 1, 1);
  }

  // Promise 8: "A STROKE on a PIECE (b a CORNER), or on a CORNER (b -1): STIFF, HEAVY then. BAD; NOT: no PIECE; STATE: it is 1."
  private static void strokeEach() {
    BUSY.bounds("8", BAD, "stroke", new long[] {0, 0, 1}, 0, 0, 2);
    BUSY.bounds("8", BAD, "stroke", new long[] {0, 0, 1}, 1, 0, 2);
    BUSY.bounds("8", BAD, "stroke", new long[] {0, 0, 1}, 2, -1, 2);
    BUSY.refuses("8: no PIECE", NOT, "stroke", 0, 0, 2);
    BUSY.refuses("8: a CORNER and itself", NOT, "stroke", 0, 1, 1);
    BUSY.refuses("8: a CORNER is not there", BAD, "stroke", 0, 3, -1);
    BUSY.refuses("8: BAD ahead of NOT", BAD, "stroke", 0, 3, 3);
    Edges least = new Edges(DUE, x -> Due.shape(x, "c12;pab1;hb"));
    least.refuses("8: STIFF is 1", STATE, "stroke", 0, 0, 1);
    least.refuses("8: HEAVY is 1", STATE, "stroke", 0, 0, -1);
    least.answers("8: HEAVY is 2, then 1", 1, "stroke", 0, 1, -1);
    Edges two = new Edges(DUE, x -> Due.shape(x, "c99;pab2"));
    two.answers("8: STIFF is 2, then 1", 1, "stroke", 0, 1, 0);
    two.answers("8: HEAVY is 9, then 8", 8, "stroke", 0, 0, -1);
    PlatesSing x = Due.with("c19;pab9");
    for (int k = 8; k >= 1; k--) DUE.is("8: STIFF then", x.stroke(0, 0, 1), k);
    DUE.is("8: not below 1", x.stroke(0, 0, 1), STATE);
    DUE.is("8: it stays 1", x.piece(0, 0, 1, 1), 1);
    for (int k = 8; k >= 1; k--) DUE.is("8: HEAVY then", x.stroke(0, 1, -1), k);
    DUE.is("8: not below 1", x.stroke(0, 1, -1), STATE);
    DUE.is("8: it stays 1", x.of(0, 11), 1);
  }

  // Part 3: "a crack of more than STIFF is STIFF then"
  private static void strokesAndCracks() {
    for (int crack = 0; crack <= 5; crack++) {
      PlatesSing x = Due.with("c11;pab5");
      x.crack(0, 0, 1, crack);
      for (int stiff = 4; stiff >= 1; stiff--) {
        DUE.is("8: STIFF then", x.stroke(0, 0, 1), stiff);
        DUE.is("8: a crack of " + crack + " by " + stiff, x.piece(0, 0, 1, 2), Math.min(crack, stiff));
      }
      for (int k = 4; k >= 1; k--) x.undo();
      DUE.is("44: the crack is back", x.piece(0, 0, 1, 2), crack);
      DUE.is("44: and STIFF", x.piece(0, 0, 1, 1), 5);
    }
  }

  public static void main(String[] args) {
    newObject();
    bytesThatCome();
    fullTape();
    eachByteOfAText();
    endsTooEarly();
    leastAndGreatestInTexts();
    fullOfShapes();
    ofEach();
    pieceOfTwo();
    putEach();
    crackEach();
    strokeEach();
    strokesAndCracks();
    DUE.finish();
  }
}
