/** Promises 20 to 28. */
public final class PlansTest {
  private static final Due DUE = new Due("PlansTest");
  private static final int BAD = PlatesSing.BAD, NOT = PlatesSing.NOT, FULL = PlatesSing.FULL, STATE = PlatesSing.STATE;

  private static void lists() {
    PlatesSing x = Due.with("c2222;pab2;pbc2;pcd2;hd");
    Due.shape(x, "c22;pab2");
    DUE.is("20: a piece", x.plan(0, 1, 0, 3), 1);
    DUE.is("20: told", x.plan(0, 0, 1, 1), BAD);
    DUE.is("20: another shape", x.plan(1, 0, -1, 1), BAD);
    DUE.is("20: a corner", x.plan(0, 0, -1, 1), 2);
    DUE.is("20: that corner again", x.plan(0, 0, -1, 2), BAD);
    DUE.is("20: no piece", x.plan(0, 0, 2, 1), NOT);
    DUE.is("20: a corner and itself", x.plan(0, 1, 1, 1), NOT);
    DUE.is("20: often 0", x.plan(0, 1, 2, 0), BAD);
    DUE.is("20: often 4", x.plan(0, 1, 2, 4), BAD);
    DUE.is("20: corner 4", x.plan(0, 4, -1, 1), BAD);
    DUE.is("20: b -2", x.plan(0, 1, -2, 1), BAD);
    DUE.is("20: b 4", x.plan(0, 1, 4, 1), BAD);
    DUE.is("20: shape 2", x.plan(2, 0, 1, 1), BAD);
    DUE.is("20: third", x.plan(0, 1, 2, 1), 3);
    DUE.is("20: fourth", x.plan(0, 1, -1, 1), 4);
    DUE.is("20: fifth", x.plan(0, 2, -1, 1), 5);
    DUE.is("20: sixth, held", x.plan(0, 3, -1, 1), 6);
    DUE.is("20: seventh", x.plan(0, 2, 3, 1), FULL);
    DUE.is("20: NOT ahead of FULL", x.plan(0, 0, 3, 1), NOT);
    DUE.is("20: BAD ahead of FULL", x.plan(0, 2, -1, 1), BAD);

    DUE.is("21: a wish", x.wish(0, 1, 0), 1);
    DUE.is("21: told by that q", x.wish(0, 1, 5), BAD);
    DUE.is("21: by another one", x.wish(0, 2, 99), 2);
    DUE.is("21: tone 3 is not there", x.wish(3, 1, 5), BAD);
    DUE.is("21: v 100", x.wish(1, 1, 100), BAD);
    DUE.is("21: v -1", x.wish(1, 1, -1), BAD);
    DUE.is("21: q 0", x.wish(1, 0, 1), BAD);
    DUE.is("21: q 10", x.wish(1, 10, 1), BAD);
    DUE.is("21: tone -1", x.wish(-1, 1, 1), BAD);
    for (int q = 3; q <= 6; q++) DUE.is("21: more", x.wish(2, q, 1), q);
    DUE.is("21: seventh", x.wish(2, 7, 1), FULL);
    DUE.is("21: BAD ahead of FULL", x.wish(2, 6, 1), BAD);

    DUE.is("24: strokes there were", x.forget(), 6);
    DUE.is("24: none then", x.forget(), 0);
    DUE.is("21: no stroke is told", x.wish(0, 1, 0), STATE);
    DUE.is("21: tone 5 might be there", x.wish(5, 1, 0), STATE);
    DUE.is("21: no tone 6 ever", x.wish(6, 1, 0), BAD);
    DUE.is("20: another shape now", x.plan(1, 0, 1, 1), 1);
    DUE.is("24: wishes are none, too", x.wish(0, 1, 0), 1);
    DUE.is("21: tone 1", x.wish(1, 1, 0), 2);
    DUE.is("21: tone 2 is not there now", x.wish(2, 1, 0), BAD);
  }

  /** One corner between held ones: its tone is (what its pieces count) / HEAVY. */
  private static void tuning() {
    PlatesSing x = Due.with("c2111;pab4;pac3;pad2;hb;hc;hd");
    DUE.is("22: no list", x.moved(0, 0, 1), BAD);
    DUE.is("23: no list", x.tune(0), STATE);
    DUE.is("20: ab", x.plan(0, 0, 1, 3), 1);
    DUE.is("20: ac", x.plan(0, 0, 2, 2), 2);
    DUE.is("20: ad", x.plan(0, 0, 3, 3), 3);
    DUE.is("23: no wish", x.tune(0), STATE);
    DUE.is("23: what 4", x.tune(4), BAD);
    DUE.is("23: what -1", x.tune(-1), BAD);
    DUE.is("22: 8 / 2", x.moved(0, 0, 2), 8);
    DUE.is("22: it is not stroked", x.shut(0, 0, 2), 9);
    DUE.is("22: stroke 3", x.moved(3, 0, 2), BAD);
    DUE.is("22: stroke -1", x.moved(-1, 0, 2), BAD);
    DUE.is("22: tone 1", x.moved(0, 1, 2), BAD);
    DUE.is("22: q 0", x.moved(0, 0, 0), BAD);
    x.wish(0, 2, 9);
    DUE.is("23: none is needed", x.tune(0), 0);
    DUE.is("23: as digits", x.tune(1), 0);
    DUE.is("23: sum", x.tune(2), 0);
    DUE.is("23: size", x.tune(3), 0);
    x.stroke(0, 0, 3);
    DUE.is("22: STIFF is 1", x.moved(2, 0, 2), STATE);
    DUE.is("23: it can't become stiffer", x.tune(0), NOT);
    DUE.is("23: digits", x.tune(1), NOT);
    DUE.is("23: closest is off by 1", x.tune(2), 1);
    DUE.is("23: without a stroke", x.tune(3), 0);
    x.undo();
    tune(x, 8, 1, 1);
    tune(x, 7, 2, 11);
    tune(x, 6, 3, 111);
    tune(x, 5, 4, 1112);
    tuneNot(x, 4, 1, 4);
    tuneNot(x, 20, 11, 0);

    x.forget();
    x.plan(0, 0, 2, 1);
    x.plan(0, 0, 3, 3);
    x.plan(0, 0, 1, 1);
    x.wish(0, 2, 6);
    DUE.is("23: once, once and once", x.tune(1), 123);
    x.put(0, 0, 2, 1);
    DUE.is("23: the tone is not there", x.tune(0), STATE);
    DUE.is("23: nor for the closest", x.tune(2), STATE);
    DUE.is("22: nor for moved", x.moved(0, 0, 2), BAD);
    x.undo();
    DUE.is("23: it is there again", x.tune(0), 3);
    DUE.is("24: strokes", x.forget(), 3);

    x.plan(0, 0, -1, 3);
    x.wish(0, 1, 9);
    DUE.is("22: a lighter corner", x.moved(0, 0, 1), 9);
    DUE.is("23: a lighter corner", x.tune(1), 1);
    x.wish(0, 2, 9);
    DUE.is("23: not both", x.tune(0), NOT);
    DUE.is("23: 5 by the one, or 9 by the other", x.tune(2), 5);
    DUE.is("23: without a stroke", x.tune(3), 0);
    x.crack(0, 0, 1, 4);
    DUE.is("22: cracks are as they are", x.moved(0, 0, 1), 5);
    DUE.is("23: a corner that would fall below 1", x.tune(3), 1);
    x.forget();
    x.plan(0, 0, 1, 1);
    x.crack(0, 0, 1, 2);
    DUE.is("22: a crack within STIFF stays", x.moved(0, 0, 2), 6);
    x.forget();
    x.plan(0, 0, -1, 3);
    x.put(0, 0, 1, 3);
    x.wish(0, 5, 35);
    DUE.is("23: 7 / 1 would need HEAVY 1 and no weight", x.tune(0), NOT);
    x.put(0, 0, 1, 0);
    DUE.is("23: now it does", x.tune(1), 1);
    x.forget();
    x.plan(0, 0, -1, 3);
    x.wish(0, 1, 99);
    DUE.is("23: nothing becomes lighter than 1", x.tune(0), NOT);
    DUE.is("23: closest by one stroke", x.tune(3), 1);
    DUE.is("23: 99 less 7", x.tune(2), 92);
  }

  /** Tells the wish anew, the three strokes with it. */
  private static void again(PlatesSing x, int v) {
    x.forget();
    x.plan(0, 0, 1, 3);
    x.plan(0, 0, 2, 2);
    x.plan(0, 0, 3, 3);
    x.wish(0, 2, v);
  }

  private static void tune(PlatesSing x, int v, int fewest, int digits) {
    again(x, v);
    DUE.is("23: fewest for " + v, x.tune(0), fewest);
    DUE.is("23: digits for " + v, x.tune(1), digits);
    DUE.is("23: sum for " + v, x.tune(2), 0);
    DUE.is("23: size for " + v, x.tune(3), fewest);
  }

  private static void tuneNot(PlatesSing x, int v, int sum, int size) {
    again(x, v);
    DUE.is("23: fewest for " + v, x.tune(0), NOT);
    DUE.is("23: digits for " + v, x.tune(1), NOT);
    DUE.is("23: sum for " + v, x.tune(2), sum);
    DUE.is("23: size for " + v, x.tune(3), size);
  }

  private static void hearing() {
    PlatesSing x = Due.with("c1111;pab4;pac3;hb;hc;hd");
    DUE.is("26: nothing heard: all", x.fits(0, 1, 0), 8);
    DUE.is("26: the sound one first", x.fits(0, 1, 1), -1);
    DUE.is("26: its crack", x.fits(0, 1, 2), 0);
    DUE.is("27: the one tone", x.next(0, 1), 0);
    DUE.is("25: heard", x.hear(5), 1);
    DUE.is("26: two fit", x.fits(0, 1, 0), 2);
    DUE.is("26: the first is of ab", x.fits(0, 1, 1), 0);
    DUE.is("26: by 2", x.fits(0, 1, 2), 2);
    DUE.is("27: no tone is left", x.next(0, 1), NOT);
    x.crack(0, 0, 2, 3);
    DUE.is("26: the others are without their cracks", x.fits(0, 1, 0), 2);
    DUE.is("25: more than tones", x.hear(0), 2);
    DUE.is("26: more was heard than tones", x.fits(0, 1, 0), BAD);
    DUE.is("27: no tone is left", x.next(0, 1), NOT);
    DUE.is("28: there were", x.unhear(), 2);
    DUE.is("28: none then", x.unhear(), 0);
    x.hear(3);
    DUE.is("26: only one", x.fits(0, 1, 0), 1);
    DUE.is("26: of ab", x.fits(0, 1, 1), 0);
    DUE.is("26: by all of it", x.fits(0, 1, 2), 4);
    x.unhear();
    x.hear(2);
    DUE.is("26: none", x.fits(0, 1, 0), 0);
    DUE.is("26: no piece", x.fits(0, 1, 1), NOT);
    DUE.is("26: no crack", x.fits(0, 1, 2), NOT);
    DUE.is("26: what 3", x.fits(0, 1, 3), BAD);
    DUE.is("26: what -1", x.fits(0, 1, -1), BAD);
    DUE.is("26: q 0", x.fits(0, 0, 0), BAD);
    DUE.is("26: shape 1", x.fits(1, 1, 0), BAD);
    DUE.is("27: q 10", x.next(0, 10), BAD);
    DUE.is("27: shape 1", x.next(1, 1), BAD);
    DUE.is("25: v -1", x.hear(-1), BAD);
    DUE.is("25: v 100", x.hear(100), BAD);
    for (int n = 2; n <= 6; n++) DUE.is("25: more", x.hear(99), n);
    DUE.is("25: full", x.hear(1), FULL);
    DUE.is("25: BAD ahead of FULL", x.hear(-1), BAD);
    DUE.is("28: six", x.unhear(), 6);
  }

  private static void nextBlow() {
    PlatesSing x = Due.with("c111;pab1;pbc9;hc");
    DUE.is("27: tone 1 tells more", x.next(0, 1), 1);
    x.hear(0);
    DUE.is("26: tone 0 is 0", x.fits(0, 1, 0) > 1 ? 1 : 0, 1);
    DUE.is("27: what is left", x.next(0, 1), 1);
    x.unhear();
    x.hear(99);
    DUE.is("27: none fits", x.next(0, 1), NOT);
    Due.shape(x, "c11");
    x.unhear();
    DUE.is("27: of like ones the least", x.next(1, 1), 0);
    x.hear(0);
    DUE.is("27: behind those heard", x.next(1, 1), 1);
    DUE.is("26: only the sound one", x.fits(1, 1, 0), 1);
    Due.shape(x, "c111;pab4;pac3;hb;hc");
    x.unhear();
    x.hear(2);
    DUE.is("26: none", x.fits(2, 1, 0), 0);
    x.unhear();
    x.hear(8);
    DUE.is("26: by halves", x.fits(2, 2, 0), 2);
    DUE.is("26: its body", x.fits(2, 2, 1), x.piece(2, 0, 1, 0));
    x.unhear();
    x.hear(5);
    x.hear(1);
    DUE.is("26: more than tones", x.fits(2, 1, 0), BAD);
    x.unhear();
    x.hear(3);
    DUE.is("26: all of the first", x.fits(2, 1, 2), 4);
    x.unhear();
    x.hear(7);
    DUE.is("26: the sound one", x.fits(2, 1, 1), -1);
    x.unhear();
    x.hear(4);
    DUE.is("26: all of the first, or all of the second less 1", x.fits(2, 1, 0), 2);
    DUE.is("26: the first by its body", x.fits(2, 1, 1), 2);
    DUE.is("26: its crack", x.fits(2, 1, 2), 3);
    Due.shape(x, "c111;pab2;pac9;hb;hc");
    DUE.is("26: all but 4 of the second", x.fits(3, 1, 0), 1);
    DUE.is("26: its body", x.fits(3, 1, 1), 5);
    DUE.is("26: its crack", x.fits(3, 1, 2), 7);
  }

  public static void main(String[] args) {
    lists();
    tuning();
    hearing();
    nextBlow();
    DUE.finish();
  }
}
