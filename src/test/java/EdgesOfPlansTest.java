import java.util.function.Consumer;

/** Every edge that part 3 names, and the promises 20 to 28. */
public final class EdgesOfPlansTest {
  private static final Due DUE = new Due("EdgesOfPlansTest");
  private static final int BAD = PlatesSing.BAD, NOT = PlatesSing.NOT, FULL = PlatesSing.FULL, STATE = PlatesSing.STATE;
  private static final Edges BUSY = new Edges(DUE, Worlds::busy);
  private static final Edges FULL_UP = new Edges(DUE, Worlds::full);

  /** Shapes, but no lists. */
  private static final Edges FORGOT = new Edges(DUE, x -> {
    Worlds.busy(x);
    x.forget();
    x.unhear();
  });

  // Promise 20: "so often (1 .. 3) on a PIECE (b a CORNER), a CORNER (b -1): how many. BAD (another SHAPE; told); NOT: no PIECE; FULL: 6."
  private static void strokesForTheList() {
    FORGOT.bounds("20", BAD, "plan", new long[] {0, 0, -1, 1}, 0, 0, 4);
    FORGOT.bounds("20", BAD, "plan", new long[] {0, 0, -1, 1}, 1, 0, 2);
    FORGOT.bounds("20", BAD, "plan", new long[] {0, 1, 0, 1}, 2, -1, 2);
    FORGOT.bounds("20", BAD, "plan", new long[] {0, 0, 1, 1}, 3, 1, 3);
    FORGOT.bounds("20", BAD, "plan", new long[] {0, 0, -1, 1}, 3, 1, 3);
    FORGOT.refuses("20: no PIECE", NOT, "plan", 0, 0, 2, 1);
    FORGOT.refuses("20: a CORNER and itself", NOT, "plan", 0, 2, 2, 1);
    FORGOT.refuses("20: BAD ahead of NOT", BAD, "plan", 0, 0, 2, 4);
    FORGOT.answers("20: a HELD CORNER", 1, "plan", 3, 0, -1, 3);
    BUSY.answers("20: the third", 3, "plan", 0, 1, 2, 3);
    BUSY.refuses("20: another SHAPE", BAD, "plan", 1, 0, 1, 1);
    BUSY.refuses("20: another SHAPE", BAD, "plan", 4, 0, -1, 1);
    BUSY.refuses("20: another SHAPE, ahead of NOT", BAD, "plan", 2, 0, 2, 1);
    BUSY.refuses("20: told", BAD, "plan", 0, 0, 1, 2);
    BUSY.refuses("20: told the other way", BAD, "plan", 0, 1, 0, 1);
    BUSY.refuses("20: told, so often or not", BAD, "plan", 0, 0, 1, 3);
    BUSY.refuses("20: told", BAD, "plan", 0, 0, -1, 1);
    BUSY.refuses("20: no PIECE", NOT, "plan", 0, 0, 2, 1);
    FULL_UP.refuses("20: six are told", FULL, "plan", 0, 2, -1, 1);
    FULL_UP.refuses("20: six are told", FULL, "plan", 0, 1, 2, 3);
    FULL_UP.refuses("20: told, ahead of FULL", BAD, "plan", 0, 0, -1, 1);
    FULL_UP.refuses("20: another SHAPE, ahead of FULL", BAD, "plan", 1, 0, -1, 1);
    FULL_UP.refuses("20: NOT ahead of FULL", NOT, "plan", 0, 2, 2, 1);
    FULL_UP.refuses("20: BAD ahead of FULL", BAD, "plan", 0, 1, 2, 0);
    PlatesSing x = FORGOT.make();
    x.plan(0, 0, 2, 1);
    x.plan(0, 0, 1, 0);
    DUE.is("20: what was refused is not the first one", x.plan(1, 0, -1, 1), 1);
    x.forget();
    DUE.is("24: the list's SHAPE is forgotten, too", x.plan(0, 0, -1, 1), 1);
    DUE.is("24: what was told may be told again", x.plan(0, 0, 1, 1), 2);
  }

  // Promise 21: "A WISH for the list's SHAPE: how many. BAD (also TONE told by that q); STATE: no STROKE is told; FULL: 6."
  private static void wishes() {
    BUSY.bounds("21", BAD, "wish", new long[] {0, 1, 5}, 0, 0, 2);
    BUSY.bounds("21", BAD, "wish", new long[] {2, 5, 5}, 1, 1, 9);
    BUSY.bounds("21", BAD, "wish", new long[] {2, 5, 5}, 2, 0, 99);
    BUSY.refuses("21: TONE told by that q", BAD, "wish", 0, 9, 3);
    BUSY.refuses("21: TONE told by that q, another v", BAD, "wish", 0, 9, 4);
    BUSY.answers("21: TONE told, by another q", 3, "wish", 0, 8, 3);
    BUSY.answers("21: that q told, of another TONE", 3, "wish", 2, 9, 3);
    FORGOT.refuses("21: no STROKE is told", STATE, "wish", 0, 1, 0);
    FORGOT.refuses("21: no STROKE is told", STATE, "wish", 0, 9, 99);
    FORGOT.bounds("21: BAD ahead of STATE", BAD, "wish", new long[] {0, 1, 0}, 1, 1, 9);
    FORGOT.bounds("21: BAD ahead of STATE", BAD, "wish", new long[] {0, 1, 0}, 2, 0, 99);
    FORGOT.bounds("21: BAD ahead of STATE, no SHAPE has more", BAD, "wish", new long[] {0, 1, 0}, 0, 0, 5);
    FULL_UP.refuses("21: six are told", FULL, "wish", 2, 5, 5);
    FULL_UP.refuses("21: BAD ahead of FULL", BAD, "wish", 0, 1, 5);
    FULL_UP.refuses("21: BAD ahead of FULL", BAD, "wish", 5, 5, 5);
    FULL_UP.refuses("21: BAD ahead of FULL", BAD, "wish", 2, 5, 100);
    PlatesSing x = Due.with("c1;ha");
    x.plan(0, 0, -1, 1);
    DUE.is("21: a SHAPE without TONES", x.wish(0, 1, 0), BAD);
  }

  // Promise 22: "MOVED by STROKE k of the list: TONE i SHUT by q after it. BAD; STATE: STIFF, HEAVY is 1."
  private static void moved() {
    BUSY.bounds("22", BAD, "moved", new long[] {0, 0, 1}, 0, 0, 1);
    BUSY.bounds("22", BAD, "moved", new long[] {0, 0, 1}, 1, 0, 2);
    BUSY.bounds("22", BAD, "moved", new long[] {0, 0, 1}, 2, 1, 9);
    FULL_UP.bounds("22", BAD, "moved", new long[] {0, 0, 1}, 0, 0, 5);
    FORGOT.refuses("22: no STROKE is told", BAD, "moved", 0, 0, 1);
    FORGOT.refuses("22: no STROKE is told", BAD, "moved", -1, 0, 1);
    Edges ones = new Edges(DUE, x -> {
      Due.shape(x, "c121;pab1;pbc2;pac9");
      x.plan(0, 0, 1, 3);
      x.plan(0, 0, -1, 3);
      x.plan(0, 1, 2, 3);
      x.plan(0, 1, -1, 3);
    });
    ones.refuses("22: STIFF is 1", STATE, "moved", 0, 0, 1);
    ones.refuses("22: HEAVY is 1", STATE, "moved", 1, 0, 1);
    ones.refuses("22: BAD ahead of STATE", BAD, "moved", 0, 3, 1);
    ones.refuses("22: BAD ahead of STATE", BAD, "moved", 1, 0, 10);
    PlatesSing x = ones.make();
    int byPiece = x.moved(2, 2, 9);
    int byCorner = x.moved(3, 1, 9);
    x.stroke(0, 1, 2);
    DUE.is("22: STIFF 2, then 1, stroked once", byPiece, x.shut(0, 2, 9));
    DUE.is("22: as it is now: STIFF is 1", x.moved(2, 2, 9), STATE);
    x.undo();
    x.stroke(0, 1, -1);
    DUE.is("22: HEAVY 2, then 1, stroked once", byCorner, x.shut(0, 1, 9));
    DUE.is("22: as it is now: HEAVY is 1", x.moved(3, 1, 9), STATE);
    PlatesSing y = oneTone("932", 3);
    DUE.is("22: 14 less 1, stroked once", y.moved(0, 0, 1), 13);
    y.crack(0, 0, 1, 9);
    DUE.is("22: a crack of more than STIFF is STIFF then", y.moved(0, 0, 1), 5);
    y.crack(0, 0, 1, 8);
    DUE.is("22: a crack of no more than STIFF stays", y.moved(0, 0, 1), 5);
    DUE.is("22: before it", y.shut(0, 0, 1), 6);
  }

  /** Corner a of HEAVY 1 and held ones, tied to it by these digits; each piece is told, so often. */
  private static PlatesSing oneTone(String stiff, int often) {
    StringBuilder text = new StringBuilder("c1");
    for (int k = 0; k < stiff.length(); k++) text.append('1');
    for (int k = 0; k < stiff.length(); k++) {
      char c = (char) ('b' + k);
      text.append(";pa").append(c).append(stiff.charAt(k)).append(";h").append(c);
    }
    PlatesSing x = Due.with(text.toString());
    for (int k = 0; k < stiff.length(); k++) x.plan(0, 0, k + 1, often);
    return x;
  }

  private static void tunes(String what, PlatesSing x, int fewest, int digits, int sum, int size) {
    DUE.is("23: " + what + ", fewest", x.tune(0), fewest);
    DUE.is("23: " + what + ", digits", x.tune(1), digits);
    DUE.is("23: " + what + ", sum", x.tune(2), sum);
    DUE.is("23: " + what + ", how many", x.tune(3), size);
  }

  // Promise 23: "STATE: no STROKE or no WISH is told, or one is of a TONE that is not there. BAD."
  private static void tuneRefusals() {
    BUSY.bounds("23", BAD, "tune", new long[] {0}, 0, 0, 3);
    Edges noWish = new Edges(DUE, x -> {
      Worlds.busy(x);
      x.forget();
      x.plan(0, 0, 1, 1);
    });
    Edges noTone = new Edges(DUE, x -> {
      Worlds.busy(x);
      x.put(0, 1, 2, 1);
      x.put(0, 2, 2, 1);
    });
    for (int what = 0; what <= 3; what++) {
      FORGOT.refuses("23: no STROKE is told", STATE, "tune", what);
      noWish.refuses("23: no WISH is told", STATE, "tune", what);
      noTone.refuses("23: one is of a TONE that is not there", STATE, "tune", what);
    }
    FORGOT.refuses("23: BAD ahead of STATE", BAD, "tune", 4);
    noWish.refuses("23: BAD ahead of STATE", BAD, "tune", -1);
    noTone.refuses("23: BAD ahead of STATE", BAD, "tune", 4);
    PlatesSing x = noTone.make();
    x.put(0, 2, 2, 0);
    DUE.is("23: TONE 1 is there again", x.tune(2) >= 0 ? 1 : 0, 1);
    Edges none = new Edges(DUE, y -> {
      Worlds.busy(y);
      y.wish(2, 1, 99);
    });
    none.refuses("23: none", NOT, "tune", 0);
    none.refuses("23: none", NOT, "tune", 1);
  }

  // "the fewest STROKES from the list (each as often as is told, 1 .. 3, at most 4 together)", "0 to 4 STROKES"
  private static void fewest() {
    for (int v = 0; v <= 30; v++) {
      PlatesSing x = oneTone("99", 3);
      x.wish(0, 1, v);
      int off = 18 - v;
      if (off < 0) tunes(v + " of 18", x, NOT, NOT, -off, 0);
      else if (off > 4) tunes(v + " of 18", x, NOT, NOT, off - 4, 4);
      else tunes(v + " of 18", x, off, new int[] {0, 1, 11, 111, 1112}[off], 0, off);
    }
    for (int often = 1; often <= 3; often++) {
      PlatesSing x = oneTone("9", often);
      x.wish(0, 1, 9 - often);
      tunes("as often as is told, " + often, x, often, new int[] {0, 1, 11, 111}[often], 0, often);
      PlatesSing y = oneTone("9", often);
      y.wish(0, 1, 8 - often);
      tunes("once more than is told, " + often, y, NOT, NOT, 1, often);
    }
    PlatesSing six = oneTone("99999", 1);
    six.plan(0, 0, -1, 1);
    six.wish(0, 1, 41);
    tunes("four of five", six, 4, 1234, 0, 4);
    six.forget();
    for (int b = 5; b >= 1; b--) six.plan(0, 0, b, 1);
    six.plan(0, 1, -1, 3);
    six.wish(0, 1, 40);
    tunes("five would be needed", six, NOT, NOT, 1, 4);
  }

  // "a set by which something would fall below 1 is none"
  private static void notBelowOne() {
    PlatesSing x = oneTone("21", 3);
    x.wish(0, 1, 1);
    tunes("2 falls to 1, 1 does not", x, NOT, NOT, 1, 1);
    x.forget();
    x.plan(0, 0, 2, 1);
    x.wish(0, 1, 2);
    tunes("1 never falls", x, NOT, NOT, 1, 0);
    PlatesSing y = Due.with("c31;sa9;pab9;hb");
    y.plan(0, 0, -1, 3);
    y.wish(0, 1, 18);
    tunes("HEAVY 3, twice", y, 2, 11, 0, 2);
    y.stroke(0, 0, -1);
    tunes("HEAVY 2, once, by the SHAPE as it is now", y, 1, 1, 0, 1);
    y.stroke(0, 0, -1);
    tunes("HEAVY 1, none is needed", y, 0, 0, 0, 0);
    y.forget();
    y.plan(0, 0, -1, 3);
    y.wish(0, 1, 99);
    tunes("HEAVY 1 stays", y, NOT, NOT, 81, 0);
    // HELD corners may be stroked, and change nothing
    y.forget();
    y.plan(0, 1, -1, 1);
    y.wish(0, 1, 18);
    tunes("none is needed", y, 0, 0, 0, 0);
  }

  // "of several rows the least as digits (numbers of STROKES, rising in the row: order does not matter)"
  private static void leastDigits() {
    PlatesSing x = oneTone("5555", 2);
    x.wish(0, 1, 17);
    tunes("11 and not 12, 13, 22", x, 3, 112, 0, 3);
    PlatesSing y = oneTone("5555", 1);
    y.wish(0, 1, 17);
    tunes("123 and not 124", y, 3, 123, 0, 3);
    PlatesSing z = oneTone("1515", 3);
    z.wish(0, 1, 8);
    tunes("the second and the fourth alone", z, 4, 2224, 0, 4);
    PlatesSing w = oneTone("15155", 3);
    w.plan(0, 0, -1, 1);
    w.wish(0, 1, 16);
    tunes("one, the least", w, 1, 2, 0, 1);
    PlatesSing v = Due.with("c2111;pab4;pac4;pad4;hb;hc;hd");
    v.plan(0, 1, -1, 1);
    v.plan(0, 2, -1, 1);
    v.plan(0, 3, -1, 1);
    v.plan(0, 0, 1, 1);
    v.plan(0, 0, 2, 1);
    v.plan(0, 0, -1, 3);
    v.wish(0, 1, 12);
    tunes("the sixth alone", v, 1, 6, 0, 1);
    v.forget();
    v.plan(0, 0, -1, 3);
    v.plan(0, 0, 1, 1);
    v.wish(0, 1, 11);
    tunes("the first and the second, rising", v, 2, 12, 0, 2);
  }

  // "CLOSEST: of all these sets the least sum of differences of WISHES (of like ones as few STROKES as can be)"
  private static void closest() {
    PlatesSing x = oneTone("9", 2);
    x.wish(0, 1, 8);
    x.wish(0, 2, 18);
    tunes("1 and 0, or 0 and 2", x, NOT, NOT, 1, 0);
    x.forget();
    x.plan(0, 0, 1, 2);
    x.wish(0, 1, 7);
    x.wish(0, 2, 18);
    tunes("2 and 0, 1 and 2, or 0 and 4", x, NOT, NOT, 2, 0);
    x.forget();
    x.plan(0, 0, 1, 1);
    x.wish(0, 1, 8);
    x.wish(0, 9, 80);
    tunes("9 by 9 is 81, 8 by 9 is 72", x, NOT, NOT, 2, 0);
    x.forget();
    x.plan(0, 0, 1, 1);
    x.wish(0, 1, 0);
    x.wish(0, 2, 99);
    x.wish(0, 3, 26);
    tunes("9 + 81 + 1, or 8 + 83 + 2", x, NOT, NOT, 91, 0);
    x.forget();
    x.plan(0, 0, 1, 3);
    x.wish(0, 9, 58);
    tunes("81, 72, 63, 54", x, NOT, NOT, 4, 3);
    x.forget();
    x.plan(0, 0, 1, 3);
    for (int q = 1; q <= 6; q++) x.wish(0, q, 7 * q);
    tunes("six WISHES, all come true", x, 2, 11, 0, 2);
    x.forget();
    x.plan(0, 0, 1, 3);
    for (int q = 1; q <= 5; q++) x.wish(0, q, 7 * q);
    x.wish(0, 6, 41);
    tunes("six WISHES, all but the last", x, NOT, NOT, 1, 2);
  }

  // Promise 24: "Both lists are none: how many STROKES there were."
  private static void forget() {
    PlatesSing x = FULL_UP.make();
    DUE.is("24: six", x.forget(), 6);
    DUE.is("24: none", x.forget(), 0);
    DUE.is("24: no STROKE is told", x.wish(2, 5, 5), STATE);
    DUE.is("24: one", x.plan(0, 0, -1, 1), 1);
    DUE.is("24: no WISH is told", x.tune(0), STATE);
    DUE.is("24: the first WISH", x.wish(0, 1, 5), 1);
    DUE.is("24: one STROKE, whatever WISHES", x.forget(), 1);
  }

  // Promise 25: "how many. BAD (v 0 .. 99), FULL: 6."; promise 28: "What was heard is none: how many there were."
  private static void hear() {
    BUSY.bounds("25", BAD, "hear", new long[] {5}, 0, 0, 99);
    FULL_UP.refuses("25: six were heard", FULL, "hear", 0);
    FULL_UP.refuses("25: six were heard", FULL, "hear", 99);
    FULL_UP.refuses("25: BAD ahead of FULL", BAD, "hear", 100);
    FULL_UP.refuses("25: BAD ahead of FULL", BAD, "hear", -1);
    for (int n = 0; n <= 6; n++) {
      PlatesSing x = new PlatesSing();
      for (int k = 1; k <= n; k++) DUE.is("25: how many", x.hear(k % 2 == 0 ? 0 : 99), k);
      DUE.is("28: how many there were", x.unhear(), n);
      DUE.is("28: none then", x.unhear(), 0);
      DUE.is("25: the first", x.hear(5), 1);
    }
  }

  private static Edges heard(String text, int... shuts) {
    Consumer<PlatesSing> state = x -> {
      x.body(0);
      Due.shape(x, text);
      for (int v : shuts) x.hear(v);
    };
    return new Edges(DUE, state);
  }

  private static void fit(String what, Edges e, int q, int number, int piece, int crack, int next) {
    e.answers("26: " + what, number, "fits", 0, q, 0);
    e.answers("26: " + what, piece, "fits", 0, q, 1);
    e.answers("26: " + what, crack, "fits", 0, q, 2);
    e.answers("27: " + what, next, "next", 0, q);
  }

  // Promise 26: ".. -1 sound; NOT none .. BAD (also more was heard than TONES)."
  private static void fits() {
    BUSY.bounds("26", BAD, "fits", new long[] {0, 1, 0}, 0, 0, 2);
    BUSY.bounds("26", BAD, "fits", new long[] {0, 1, 0}, 1, 1, 9);
    BUSY.bounds("26", BAD, "fits", new long[] {0, 1, 0}, 2, 0, 2);
    BUSY.refuses("26: more was heard than TONES", BAD, "fits", 3, 1, 0);
    for (int what = 0; what <= 2; what++) {
      FULL_UP.refuses("26: more was heard than TONES", BAD, "fits", 0, 9, what);
      FULL_UP.answers("26: six heard of six TONES", what == 0 ? 0 : NOT, "fits", 2, 9, what);
    }
    Edges none = heard("c11;pab4;hb", 5);
    none.refuses("26: none", NOT, "fits", 0, 1, 1);
    none.refuses("26: none", NOT, "fits", 0, 1, 2);
    fit("none of 0 .. 4 is 5", none, 1, 0, NOT, NOT, NOT);
    // "one PIECE with a crack of 1 .. STIFF", "-1 the sound one, if that FITS (counts too, first of all)"
    fit("the sound one", heard("c11;pab4;hb", 4), 1, 1, -1, 0, NOT);
    for (int v = 0; v < 4; v++) fit("a crack of " + (4 - v), heard("c11;pab4;hb", v), 1, 1, 1, 4 - v, NOT);
    fit("nothing heard: the sound one and all cracks", heard("c11;pab4;hb"), 1, 5, -1, 0, 0);
    fit("by PIECE, then crack", heard("c111;pab4;pac9;hb;hc", 9), 1, 2, 1, 4, NOT);
    fit("the second PIECE alone", heard("c111;pab4;pac9;hb;hc", 4), 1, 1, 2, 9, NOT);
    fit("three by a rough q", heard("c3111;pab1;pac1;pad7;hb;hc;hd", 2), 1, 5, 1, 1, NOT);
    fit("no PIECES: the sound one", heard("c1;sa4", 4), 1, 1, -1, 0, NOT);
    fit("no PIECES, not the sound one", heard("c1;sa4", 3), 1, 0, NOT, NOT, NOT);
    fit("no TONES, nothing heard", heard("c11;pab3;ha;hb"), 1, 4, -1, 0, NOT);
    heard("c11;pab3;ha;hb", 0).refuses("26: no TONES, one heard", BAD, "fits", 0, 1, 0);
    fit("99 by 9, whatever is cracked by little", heard("c1111;sa9;pab9;pac9;pad9;hb;hc;hd", 99), 9, 28, -1, 0, NOT);
    // "all others as they are without theirs"
    Edges cracked = new Edges(DUE, x -> {
      Due.shape(x, "c111;pab4;pac9;hb;hc");
      x.crack(0, 0, 1, 4);
      x.crack(0, 0, 2, 9);
      x.hear(13);
    });
    fit("it is sound without its cracks", cracked, 1, 1, -1, 0, NOT);
  }

  // Promise 27: "NEXT BLOW by q: the TONE (behind those heard); NOT: none FITS, or no TONE is left. BAD."
  private static void next() {
    BUSY.bounds("27", BAD, "next", new long[] {0, 1}, 0, 0, 4);
    BUSY.bounds("27", BAD, "next", new long[] {0, 1}, 1, 1, 9);
    FULL_UP.refuses("27: no TONE is left", NOT, "next", 2, 9);
    FULL_UP.refuses("27: more was heard than TONES", NOT, "next", 0, 9);
    FULL_UP.refuses("27: BAD ahead of NOT", BAD, "next", 0, 10);
    FULL_UP.refuses("27: BAD ahead of NOT", BAD, "next", 12, 9);
    heard("c11;sa1;sb2", 5).refuses("27: none FITS", NOT, "next", 0, 1);
    heard("c11;sa1;sb2", 1, 2).refuses("27: no TONE is left", NOT, "next", 0, 1);
    heard("c1;ha").refuses("27: there was never one", NOT, "next", 0, 1);
    heard("c11;sa1;sb2").answers("27: of like ones the least", 0, "next", 0, 1);
    heard("c11;sa1;sb2", 1).answers("27: behind those heard", 1, "next", 0, 1);
    heard("c111111", 0, 0, 0, 0, 0).answers("27: the last one", 5, "next", 0, 1);
    // a and b are tied by 9; c is apart: TONES 0 and c's do not part the cracks, the highest does
    heard("c111;pab9;sc1").answers("27: the TONE that parts best", 2, "next", 0, 9);
    heard("c111;pab9;sc1", 0).answers("27: the TONE that parts best", 2, "next", 0, 9);
    heard("c111;pab9;sc1", 0, 9).answers("27: the only one left", 2, "next", 0, 9);
  }

  // "NEXT BLOW: the TONE whose SHUT parts those that FIT told first k TONES best: the one with the least greatest number of alike ones; of like ones the least."
  private static void nextByCracking() {
    String[] texts = {"c1111;pad9;pbd4;sc2;hd", "c1111;sa9;pad9;pbd9;pcd9;hd;sb9;sc9", "c123;pab4;pbc5;sa2", "c111;pab9;pbc1;pca2",
        "c9876;pab1;pbc9;pcd3;sd4", "c111111;pab2;pcd2;pef2;sa1;sc5;se9", "c22222;pab1;pac2;pad3;pae4;hb", "c1111;pab9;pcd9;sa9;sb9"};
    for (String text : texts) {
      for (int q = 1; q <= 9; q += 2) {
        PlatesSing x = Due.with(text);
        int tones = x.of(0, 2);
        for (int heard = 0; heard <= tones; heard++) {
          byCracking(text, x, q, heard);
          if (heard < tones) x.hear(new PlatesSingWithCrack(text, heard % 3).shut(heard, q));
        }
      }
    }
  }

  /** A shape with the first piece cracked by so much, and what its tones are. */
  private static final class PlatesSingWithCrack {
    private final PlatesSing x;

    PlatesSingWithCrack(String text, int crack) {
      x = Due.with(text);
      for (int b = 1; b < 6 && crack > 0; b++) if (x.crack(0, 0, b, crack) >= 0) break;
    }

    int shut(int i, int q) {
      return x.shut(0, i, q);
    }
  }

  /** Cracks every piece of a twin by call, one at a time, and counts what fits. */
  private static void byCracking(String text, PlatesSing x, int q, int heard) {
    PlatesSing twin = Due.with(text);
    int tones = x.of(0, 2);
    int[] told = new int[heard];
    for (int k = 0; k < heard; k++) told[k] = new PlatesSingWithCrack(text, k % 3).shut(k, q);
    int[][] alike = new int[tones][100];
    int number = 0, first = NOT, crack = NOT;
    for (int body = -1; body < x.of(0, 1); body++) {
      int[] ends = ends(twin, body);
      int stiff = body < 0 ? 0 : twin.piece(0, ends[0], ends[1], 1);
      for (int c = body < 0 ? 0 : 1; c <= stiff; c++) {
        if (body >= 0) twin.crack(0, ends[0], ends[1], c);
        boolean fits = true;
        for (int k = 0; k < heard; k++) fits &= twin.shut(0, k, q) == told[k];
        if (!fits) continue;
        if (number == 0) first = body;
        if (number == 0) crack = c;
        number++;
        for (int i = heard; i < tones; i++) alike[i][twin.shut(0, i, q)]++;
      }
      if (body >= 0) twin.crack(0, ends[0], ends[1], 0);
    }
    int best = NOT, least = Integer.MAX_VALUE;
    for (int i = heard; i < tones && number > 0; i++) {
      int greatest = java.util.Arrays.stream(alike[i]).max().getAsInt();
      if (greatest < least) best = i;
      least = Math.min(least, greatest);
    }
    String what = text + " by " + q + ", " + heard + " heard";
    DUE.is("26: how many, " + what, x.fits(0, q, 0), number);
    DUE.is("26: PIECE, " + what, x.fits(0, q, 1), first);
    DUE.is("26: crack, " + what, x.fits(0, q, 2), crack);
    DUE.is("27: " + what, x.next(0, q), best);
  }

  private static int[] ends(PlatesSing x, int body) {
    for (int a = 0; a < 6; a++) for (int b = a + 1; b < 6; b++) if (body >= 0 && x.piece(0, a, b, 0) == body) return new int[] {a, b};
    return null;
  }

  /** The most PIECES that a SHAPE has. */
  private static void fifteenPieces() {
    StringBuilder text = new StringBuilder("c123456");
    int all = 0;
    for (char a = 'a'; a <= 'f'; a++) {
      for (char b = 'a'; b < a; b++) {
        int stiff = 1 + (a + b) % 9;
        text.append(";p").append(a).append(b).append(stiff);
        all += stiff;
      }
    }
    Edges e = heard(text.toString());
    fit("15 PIECES", e, 9, all + 1, -1, 0, e.make().next(0, 9));
    PlatesSing x = e.make();
    DUE.is("20: the last PIECE", x.plan(0, 4, 5, 3), 1);
    DUE.is("5: the last PIECE", x.piece(0, 4, 5, 0), 15);
    int[] moved = new int[6];
    for (int i = 0; i < 6; i++) moved[i] = x.moved(0, i, 2);
    x.stroke(0, 5, 4);
    for (int i = 0; i < 6; i++) DUE.is("22: the last PIECE is stroked, TONE " + i, moved[i], x.shut(0, i, 2));
  }

  public static void main(String[] args) {
    strokesForTheList();
    wishes();
    moved();
    tuneRefusals();
    fewest();
    notBelowOne();
    leastDigits();
    closest();
    forget();
    hear();
    fits();
    next();
    nextByCracking();
    fifteenPieces();
    DUE.finish();
  }
}
