/** Every edge that part 8 names, and the promises 47 to 49. */
public final class EdgesOfActsTest {
  private static final Due DUE = new Due("EdgesOfActsTest");
  private static final int BAD = PlatesSing.BAD, FULL = PlatesSing.FULL;
  private static final int GREATEST = 2147483647, LEAST = -2147483648;
  private static final Edges NEW = new Edges(DUE, x -> { });
  private static final Edges BUSY = new Edges(DUE, Worlds::busy);
  private static final Edges FULL_UP = new Edges(DUE, Worlds::full);

  // Promise 47: "A BODY of a KIND (0 .. 5): its number. BAD, FULL."; part 8: "BODIES 0 .. 199, as they come"
  private static void bodies() {
    BUSY.bounds("47", BAD, "body", new long[] {0}, 0, 0, 5);
    BUSY.answers("47: as they come", 13, "body", 0);
    FULL_UP.bounds("47: BAD ahead of FULL", BAD, "body", new long[] {0}, 0, 0, 5);
    for (int kind = 0; kind <= 5; kind++) FULL_UP.refuses("47: 200 are there", FULL, "body", kind);
    PlatesSing x = new PlatesSing();
    for (int n = 0; n < 200; n++) DUE.is("47: its number", x.body(n % 6), n);
    DUE.is("47: the 201st", x.body(0), FULL);
    DUE.is("56: 200", x.count(1), 200);
    DUE.is("48: BODY 199 is there", x.act(199, 2, 0), 199);
    DUE.is("48: BODY 200 is not", x.act(200, 2, 1), 0);
    DUE.is("50: BODY 199 is there", x.keep(0, 199), 1);
    DUE.is("50: BODY 200 is not", x.keep(0, 200), BAD);
  }

  // "Each PIECE of a text is a BODY of KIND 1 then; others come by call (they are of no SHAPE)"; "s STIFF (of others 0)"
  private static void piecesAreBodies() {
    PlatesSing x = new PlatesSing();
    x.body(1);
    Due.shape(x, "c111;pab9;pbc1");
    x.body(1);
    x.join(0, 0, 0, 5);
    int[] stiff = {0, 9, 1, 0, 9, 1, 9, 1, 5};
    DUE.is("56: as they come", x.count(1), 9);
    for (int n = 0; n < 9; n++) {
      DUE.is("48: BODY " + n + " is a PIECE", x.act(n, 0, 100), 100 + stiff[n] - 1);
      x.keep(0, n);
      DUE.is("55: BODY " + n + " is of KIND 1", x.taken(0, 0), 1);
    }
    for (int s = 8; s >= 1; s--) {
      x.stroke(0, 0, 1);
      DUE.is("48: STIFF as it is now", x.act(1, 0, 0), s - 1);
    }
    x.crack(0, 0, 1, 1);
    DUE.is("48: a crack is no less STIFF", x.act(1, 0, 0), 0);
    DUE.is("48: the joined one's is its own", x.act(4, 0, 0), 8);
  }

  // Promise 48: "An ACT (0 .. 3) of a BODY with x. 0, and no TRACE then: no such BODY, ACT."
  private static void noSuch() {
    long[][] none = {{-1, 0, 5}, {13, 0, 5}, {200, 0, 5}, {GREATEST, 1, 5}, {LEAST, 1, 5}, {0, -1, 5}, {0, 4, 5}, {12, 4, 5},
        {12, GREATEST, 5}, {12, LEAST, 5}, {13, 4, 5}};
    // the trace is none then: so it is no refusal that leaves all alone, but all else stays
    Edges noTrace = new Edges(DUE, x -> {
      Worlds.busy(x);
      x.act(-1, 0, 0);
    });
    for (long[] n : none) {
      noTrace.refuses("48: no such BODY, ACT", 0, "act", n);
      PlatesSing x = BUSY.make();
      DUE.is("56: what ran before", x.count(4), 13);
      DUE.is("49: what ran before", x.trace(0), 61);
      DUE.is("48: no such BODY, ACT", x.act((int) n[0], (int) n[1], (int) n[2]), 0);
      DUE.is("56: no TRACE then", x.count(4), 0);
      DUE.is("49: no TRACE then", x.trace(0), BAD);
    }
    PlatesSing y = new PlatesSing();
    DUE.is("48: no BODIES", y.act(0, 0, 7), 0);
    PlatesSing z = BUSY.make();
    DUE.is("48: the first BODY and ACT", z.act(0, 0, 7), 7 + 4 - 1);
    DUE.is("48: the last ACT", z.act(0, 3, 7), 2 * (7 + 4 - 1) + 1);
    DUE.is("48: the last BODY", z.act(12, 0, 7), (7 - 1) ^ 3);
  }

  // "ACTS with x (an int that wraps)"
  private static void wrapping() {
    PlatesSing x = new PlatesSing();
    for (int kind = 0; kind <= 5; kind++) x.body(kind);
    Due.shape(x, "c11;pab9");
    DUE.is("48: x + s, the greatest x", x.act(6, 0, GREATEST), LEAST + 8 - 1);
    DUE.is("48: x + s - 1, the least x", x.act(1, 0, LEAST), GREATEST);
    DUE.is("48: PART, the least x", x.act(0, 0, LEAST), LEAST);
    DUE.is("48: * 2", x.act(0, 1, 1 << 30), LEAST);
    DUE.is("48: * 2", x.act(0, 1, GREATEST), -2);
    DUE.is("48: * 2", x.act(0, 1, LEAST), 0);
    DUE.is("48: x ^ n", x.act(5, 2, LEAST), (LEAST ^ 5) + ((1 - 1) ^ 3) * 2);
    DUE.is("48: * 5", x.act(2, 2, GREATEST), (GREATEST ^ 2) * 5);
    DUE.is("48: * 5", x.act(2, 2, LEAST), (LEAST ^ 2) * 5);
    DUE.is("48: - of the least", x.act(3, 1, 1 << 30), LEAST);
    DUE.is("48: x + 1", x.act(4, 3, GREATEST), (GREATEST ^ 3) * 2 + (1 ^ 4));
    DUE.is("48: BENT tells * 2", x.act(5, 3, GREATEST), ((GREATEST ^ 3) * 2 + (1 ^ 5) + ((1 - 1) ^ 3) * 2) * 2);
    DUE.is("48: HELD weighs", x.act(2, 1, LEAST), (LEAST - 1) * 2 + 1);
    DUE.is("48: tells", x.act(0, 3, GREATEST), -2 + 1);
    for (int body = 0; body <= 6; body++) {
      for (int act = 0; act <= 3; act++) {
        for (int v : new int[] {0, 1, -1, LEAST, LEAST + 1, GREATEST - 1, GREATEST, 1 << 30, 12345}) {
          DUE.is("48: BODY " + body + ", ACT " + act + ", " + v, x.act(body, act, v), run(body, act, v));
        }
      }
    }
  }

  /** The same by classes of Java, as the document tells them. */
  private static int run(int body, int act, int x) {
    Part[] parts = {new Part(), new Piece(), new Held(), new Weighted(), new Cracked(), new Bent(), new Piece()};
    Part p = parts[body];
    p.n = body;
    p.s = body == 6 ? 9 : 0;
    return act == 0 ? p.stiffens(x) : act == 1 ? p.weighs(x) : act == 2 ? p.sounds(x) : p.tells(x);
  }

  private static class Part {
    int n, s;

    int stiffens(int x) {
      return x + s;
    }

    int weighs(int x) {
      return stiffens(x) * 2;
    }

    int sounds(int x) {
      return x ^ n;
    }

    int tells(int x) {
      return weighs(x) + sounds(1);
    }
  }

  private static class Piece extends Part {
    @Override
    int stiffens(int x) {
      return super.stiffens(x) - 1;
    }
  }

  private static final class Held extends Piece {
    @Override
    int sounds(int x) {
      return super.sounds(x) * 5;
    }

    @Override
    int weighs(int x) {
      return super.weighs(x) + stiffens(2);
    }
  }

  private static final class Weighted extends Part {
    @Override
    int weighs(int x) {
      return -super.weighs(x);
    }
  }

  private static class Cracked extends Piece {
    @Override
    int stiffens(int x) {
      return super.stiffens(x) ^ 3;
    }

    @Override
    int tells(int x) {
      return super.tells(x + 1);
    }
  }

  private static final class Bent extends Cracked {
    @Override
    int sounds(int x) {
      return super.sounds(x) + weighs(1);
    }

    @Override
    int tells(int x) {
      return super.tells(x) * 2;
    }
  }

  // Promise 49: "THE TRACE's i-th body. BAD."; part 8: "numbers of the bodies that ran in the latest act(), as they began"
  private static void traces() {
    BUSY.bounds("49", BAD, "trace", new long[] {0}, 0, 0, 12);
    NEW.refuses("49: nothing ran", BAD, "trace", 0);
    NEW.refuses("49: nothing ran", BAD, "trace", -1);
    // no act runs more than 13 bodies, so the 24 that are kept are never too few
    int[][] due = {{1}, {10, 1}, {11}, {2, 10, 1, 11}, {20, 1}, {10, 20, 1}, {11}, {2, 10, 20, 1, 11},
        {20, 1}, {31, 10, 20, 1, 20, 1}, {30, 11}, {2, 31, 10, 20, 1, 20, 1, 30, 11}, {1}, {40, 10, 1}, {11}, {2, 40, 10, 1, 11},
        {50, 20, 1}, {10, 50, 20, 1}, {11}, {51, 2, 10, 50, 20, 1, 11}, {50, 20, 1}, {10, 50, 20, 1}, {60, 11, 10, 50, 20, 1},
        {61, 51, 2, 10, 50, 20, 1, 60, 11, 10, 50, 20, 1}};
    PlatesSing x = new PlatesSing();
    for (int kind = 0; kind <= 5; kind++) x.body(kind);
    for (int k = 0; k < due.length; k++) {
      x.act(k / 4, k % 4, 1);
      String what = "49: KIND " + k / 4 + ", ACT " + k % 4;
      DUE.is(what + ", how many ran", x.count(4), due[k].length);
      for (int i = 0; i < due[k].length; i++) DUE.is(what + ", " + i, x.trace(i), due[k][i]);
      DUE.is(what + ", behind the last", x.trace(due[k].length), BAD);
      DUE.is(what + ", ahead of the first", x.trace(-1), BAD);
    }
    DUE.is("49: the latest stays", x.trace(12), 1);
    x.act(0, 0, 1);
    DUE.is("49: a shorter one", x.trace(1), BAD);
  }

  public static void main(String[] args) {
    bodies();
    piecesAreBodies();
    noSuch();
    wrapping();
    traces();
    DUE.finish();
  }
}
