/** Promises 16 to 19. */
public final class TurnsTest {
  private static final Due DUE = new Due("TurnsTest");

  private static void turns() {
    PlatesSing x = Due.with("c111;pab1;pbc1;pac1");
    DUE.is("16: a triangle", x.turnsOf(0), 6);
    DUE.is("17: its orbits", x.orbit(0, 1), 7);
    x.crack(0, 0, 1, 1);
    DUE.is("16: a crack parts it", x.turnsOf(0), 2);
    DUE.is("17: the far corner", x.orbit(0, 2), 4);
    DUE.is("17: the near ones", x.orbit(0, 0), 3);
    x.undo();
    x.put(0, 2, 0, 1);
    DUE.is("16: a pad parts it", x.turnsOf(0), 2);
    x.undo();
    x.put(0, 2, 1, 1);
    DUE.is("16: a weight parts it", x.turnsOf(0), 2);
    x.undo();
    x.put(0, 2, 2, 1);
    DUE.is("16: a hold parts it", x.turnsOf(0), 2);
    x.undo();
    Due.shape(x, "c112;pab1;pbc1;pac1");
    DUE.is("16: a heavy one parts it", x.turnsOf(1), 2);
    Due.shape(x, "c111111");
    DUE.is("16: all orders of six", x.turnsOf(2), 720);
    DUE.is("17: all six", x.orbit(2, 5), 63);
    Due.shape(x, "c123456");
    DUE.is("16: one alone", x.turnsOf(3), 1);
    DUE.is("16: shape 4", x.turnsOf(4), PlatesSing.BAD);
    DUE.is("16: shape -1", x.turnsOf(-1), PlatesSing.BAD);
    DUE.is("17: corner 3", x.orbit(0, 3), PlatesSing.BAD);
    DUE.is("17: corner -1", x.orbit(0, -1), PlatesSing.BAD);
    DUE.is("17: shape 4", x.orbit(4, 0), PlatesSing.BAD);
  }

  private static void tables() {
    PlatesSing x = Due.with("c123;pab4;pbc5");
    Due.shape(x, "c312;pbc4;pca5");
    DUE.is("18: digits", x.table(0, 1), 120);
    DUE.is("18: the way back", x.table(1, 0), 201);
    DUE.is("18: itself", x.table(0, 0), 12);
    x.crack(1, 1, 2, 1);
    DUE.is("18: pieces count", x.table(0, 1), PlatesSing.NOT);
    x.stroke(0, 0, 1);
    DUE.is("18: a crack counts as a stroke does", x.table(0, 1), 120);
    Due.shape(x, "c11");
    DUE.is("18: fewer corners", x.table(0, 2), PlatesSing.NOT);
    DUE.is("18: of several the first", x.table(2, 2), 1);
    DUE.is("18: shape 3", x.table(0, 3), PlatesSing.BAD);
    DUE.is("18: shape -1", x.table(-1, 0), PlatesSing.BAD);
    Due.shape(x, "c1");
    DUE.is("18: one corner", x.table(3, 3), 0);
  }

  private static void twins() {
    PlatesSing x = Due.with("c1;sa3");
    Due.shape(x, "c11;pab3;hb");
    DUE.is("19: a held neighbour sounds as a pad does", x.alike(0, 1, 0), 1);
    DUE.is("19: twins", x.alike(0, 1, 1), 1);
    DUE.is("19: itself is no twin", x.alike(0, 0, 1), 0);
    Due.shape(x, "c2;sa6");
    DUE.is("19: twice as stiff and heavy", x.alike(0, 2, 0), 1);
    DUE.is("19: twins", x.alike(2, 0, 1), 1);
    Due.shape(x, "c1;sa6;wa1");
    DUE.is("19: a weight", x.alike(2, 3, 0), 1);
    DUE.is("19: a weight is not HEAVY", x.alike(2, 3, 1), 1);
    Due.shape(x, "c11;sa3;sb3");
    DUE.is("19: more tones", x.alike(0, 4, 0), 0);
    DUE.is("19: more tones, no twins", x.alike(0, 4, 1), 0);
    Due.shape(x, "c1;sa4");
    DUE.is("19: another tone", x.alike(0, 5, 0), 0);
    DUE.is("19: another tone, no twins", x.alike(0, 5, 1), 0);
    DUE.is("19: what 2", x.alike(0, 1, 2), PlatesSing.BAD);
    DUE.is("19: what -1", x.alike(0, 1, -1), PlatesSing.BAD);
    DUE.is("19: shape 6", x.alike(0, 6, 0), PlatesSing.BAD);
    DUE.is("19: shape -1", x.alike(-1, 0, 0), PlatesSing.BAD);
    Due.shape(x, "c1;ha");
    Due.shape(x, "c12;ha;hb");
    DUE.is("19: no tones at all", x.alike(6, 7, 0), 1);
    DUE.is("19: and no table", x.alike(6, 7, 1), 1);
  }

  public static void main(String[] args) {
    turns();
    tables();
    twins();
    DUE.finish();
  }
}
