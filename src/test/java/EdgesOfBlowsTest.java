/** Every edge that part 4 names, what part 9 says of ears and missing elements, and the promises 29 to 38. */
public final class EdgesOfBlowsTest {
  private static final Due DUE = new Due("EdgesOfBlowsTest");
  private static final int BAD = PlatesSing.BAD, NOT = PlatesSing.NOT, FULL = PlatesSing.FULL;
  private static final int STATE = PlatesSing.STATE, VOID = PlatesSing.VOID;
  private static final Edges BUSY = new Edges(DUE, Worlds::busy);
  private static final Edges FULL_UP = new Edges(DUE, Worlds::full);
  private static final Edges NEW = new Edges(DUE, x -> { });

  // Promise 29: "DAMP becomes v: what it was (0 at first). BAD."; part 4: "DAMP 0 .. 500"
  private static void damp() {
    BUSY.bounds("29", BAD, "damp", new long[] {5}, 0, 0, 500);
    NEW.answers("29: 0 at first", 0, "damp", 500);
    PlatesSing x = Due.with("c1");
    x.ear(0, 0);
    int[] damps = {0, 1, 499, 500};
    // 99 * 64 is 6336, less 0, 6, 3161, 3168
    int[] first = {792, 791, 396, 396};
    for (int k = 0; k < damps.length; k++) {
      DUE.is("29: what it was", x.damp(damps[k]), k == 0 ? 0 : damps[k - 1]);
      DUE.is("29: a step by " + damps[k], x.blow(0, 0, 99, 1), first[k]);
      x.blow(0, 0, -99, 1);
      DUE.is("29: cut toward 0, the other way too", x.heard(0, 1), -first[k]);
    }
  }

  // Promise 30: "An EAR is at a CORNER .., or nowhere (-1): where it was (-1). VOID: BAD."; part 4: "An EAR (0 .. 3 ..; nowhere at first"
  private static void ears() {
    BUSY.bounds("30", VOID, "ear", new long[] {0, 0}, 0, 0, 3);
    BUSY.bounds("30", VOID, "ear", new long[] {0, 0}, 1, -1, 5);
    for (int ear = 0; ear < 4; ear++) {
      PlatesSing x = new PlatesSing();
      DUE.is("30: nowhere at first", x.ear(ear, 0), -1);
      DUE.is("30: the least CORNER", x.ear(ear, 5), 0);
      DUE.is("30: the greatest CORNER, without any shape", x.ear(ear, -1), 5);
      DUE.is("30: nowhere", x.ear(ear, 3), -1);
      for (int other = 0; other < 4; other++) DUE.is("30: the others", x.ear(other, -1), other == ear ? 3 : -1);
    }
  }

  // "at one that the struck SHAPE has not: nowhere for that BLOW"
  private static void earsWhereNoCornerIs() {
    for (int corners = 1; corners <= 6; corners++) {
      PlatesSing x = Due.with("c111111".substring(0, corners + 1));
      x.row(0, 2, 3);
      x.ear(0, corners - 1);
      x.ear(1, corners % 6);
      x.ear(2, 5);
      x.blow(0, corners - 1, 2, 2);
      DUE.is("34: at the last CORNER", x.heard(0, 2), 32);
      if (corners == 6) continue;
      DUE.is("34: one behind the last CORNER", x.heard(1, 1), VOID);
      DUE.is("35: one behind the last CORNER", x.loud(1, -1), STATE);
      DUE.is("36: one behind the last CORNER", x.write(1, 0, 0, 1), STATE);
      Due.shape(x, "c111111");
      x.blow(1, 5, 2, 2);
      DUE.is("34: a SHAPE that has it", x.heard(2, 2), 32);
      DUE.is("34: nowhere for that BLOW alone", x.heard(1, 2), corners == 5 ? 32 : 0);
    }
  }

  // Promise 31: "A BLOW at a CORNER with V for T steps: .. BAD; STATE: it is HELD."; part 4: "V (-99 .. 99), for T steps (1 .. 200)"
  private static void blows() {
    long[] good = {0, 0, 5, 5};
    BUSY.bounds("31", BAD, "blow", good, 0, 0, 4);
    BUSY.bounds("31", BAD, "blow", good, 1, 0, 2);
    BUSY.bounds("31", BAD, "blow", good, 2, -99, 99);
    BUSY.bounds("31", BAD, "blow", good, 3, 1, 200);
    BUSY.refuses("31: it is HELD", STATE, "blow", 1, 1, 5, 5);
    BUSY.refuses("31: it is HELD, V 0", STATE, "blow", 3, 0, 0, 1);
    BUSY.refuses("31: BAD ahead of STATE", BAD, "blow", 1, 1, 100, 5);
    BUSY.refuses("31: BAD ahead of STATE", BAD, "blow", 1, 1, 5, 201);
    BUSY.answers("31: the last shape, 64 damped by 20", 63 / 8, "blow", 4, 0, 1, 1);
    PlatesSing x = Due.with("c1");
    x.ear(0, 0);
    DUE.is("31: the greatest V, the most steps", x.blow(0, 0, 99, 200), 99 * 8 * 200);
    DUE.is("34: the last step", x.heard(0, 200), 99 * 8 * 200);
    DUE.is("56: steps", x.count(5), 200);
    DUE.is("31: the least V, one step", x.blow(0, 0, -99, 1), 99 * 8);
    DUE.is("34: the only step", x.heard(0, 1), -99 * 8);
    DUE.is("34: of one BLOW alone: the latest", x.heard(0, 2), VOID);
    DUE.is("56: steps", x.count(5), 1);
    DUE.is("31: V 0", x.blow(0, 0, 0, 200), 0);
    DUE.is("35: X is 0", x.loud(0, -1), 0);
    PlatesSing y = Due.with("c91;wa9;pab9");
    y.ear(0, 1);
    int loudest = y.blow(0, 0, 99, 200);
    DUE.is("31: LOUD of all CORNERS together", Math.max(y.loud(0, -1), loudest), loudest);
    y.ear(0, 0);
    y.ear(1, 1);
    y.blow(0, 0, 99, 200);
    DUE.is("31: the greatest size of any X", Math.max(y.loud(0, -1), y.loud(1, -1)), loudest);
  }

  // "An EAR (0 .. 3 ..) keeps X of its CORNER behind each step: the latest 200"
  private static void fourEarsOf200() {
    PlatesSing x = Due.with("c111111");
    for (int ear = 0; ear < 4; ear++) x.ear(ear, 5 - ear);
    for (int struck = 2; struck <= 5; struck++) {
      x.blow(0, struck, struck, 200);
      for (int ear = 0; ear < 4; ear++) {
        boolean there = 5 - ear == struck;
        DUE.is("34: EAR " + ear + ", the first", x.heard(ear, 1), there ? 8 * struck : 0);
        DUE.is("34: EAR " + ear + ", the last of 200", x.heard(ear, 200), there ? 1600 * struck : 0);
        DUE.is("34: EAR " + ear + ", no more", x.heard(ear, 201), VOID);
        DUE.is("35: EAR " + ear, x.loud(ear, -1), there ? 1600 * struck : 0);
      }
    }
  }

  // "U(i) is less by (PAD X(i) + .., / (HEAVY + WEIGHT, 9 at most)) / 8, each quotient cut toward 0": on both sides of 0
  private static void cutTowardZero() {
    String[] texts = {"c1;sa1", "c7;sa9", "c99;pab9;sa1;wb9", "c3217;pab1;pbc2;pcd3;pda4;hd;sa5", "c9;sa9;wa9", "c5;wa3;sa7",
        "c123456;pab9;pac9;pad9;pae9;paf9;sf9", "c111111;pab9;pac9;pad9;pae9;paf9;pbc9;pbd9;pbe9;pbf9;pcd9;pce9;pcf9;pde9;pdf9;pef9"};
    for (String text : texts) {
      for (int damp : new int[] {0, 1, 37, 500}) {
        PlatesSing x = Due.with(text);
        SlowPlates slow = new SlowPlates();
        for (int k = 0; k < text.length(); k++) slow.feed(1, text.charAt(k));
        slow.shape();
        x.damp(damp);
        slow.damp(damp);
        for (int v : new int[] {-99, -1, 3, 99}) {
          for (int ear = 0; ear < 4; ear++) {
            x.ear(ear, ear);
            slow.ear(ear, ear);
          }
          DUE.is("31: " + text, x.blow(0, 0, v, 60), slow.blow(0, 0, v, 60));
          for (int step = 1; step <= 60; step += 7) DUE.is("34: " + text, x.heard(0, step), slow.heard(0, step));
        }
      }
    }
    PlatesSing x = Due.with("c1;sa9");
    x.ear(0, 0);
    x.blow(0, 0, -1, 8);
    // by hand: U -64; X -8; 72 / 8: -55, -14; 126 / 8: -40, -19; 171 / 8: -19, -21; 189 / 8: 4, -21; 27, -18; 47, -13; 61, -6
    int[] due = {-8, -14, -19, -21, -21, -18, -13, -6};
    for (int k = 0; k < 8; k++) DUE.is("34: by hand, step " + (k + 1), x.heard(0, k + 1), due[k]);
    // 9 * 8 / 9 is 8, / 8 is 1; with 9 at most it is no less
    PlatesSing y = Due.with("c9;sa9;wa9");
    y.ear(0, 0);
    y.blow(0, 0, 1, 3);
    DUE.is("34: HEAVY and WEIGHT, 9 at most, step 2", y.heard(0, 2), 8 + 63 / 8);
    DUE.is("34: HEAVY and WEIGHT, 9 at most, step 3", y.heard(0, 3), 15 + 62 / 8);
  }

  // "HELD ones stay 0"
  private static void heldStay() {
    PlatesSing x = Due.with("c111;pab9;pbc9;hb;sb9");
    for (int ear = 0; ear < 3; ear++) x.ear(ear, ear);
    x.blow(0, 0, 99, 200);
    DUE.is("35: the struck one", x.loud(0, -1) > 0 ? 1 : 0, 1);
    DUE.is("35: HELD", x.loud(1, -1), 0);
    DUE.is("35: behind the HELD one", x.loud(2, -1), 0);
    DUE.is("34: HELD, yet heard", x.heard(1, 200), 0);
    DUE.is("35: it dies at once", x.loud(1, 0), 1);
  }

  // Promise 34: "X of an EAR behind step k (1 ..) of the latest blow(), rolled() (of its CORNER then). VOID: BAD, it was nowhere."
  private static void heard() {
    BUSY.bounds("34", VOID, "heard", new long[] {0, 1}, 1, 1, 40);
    BUSY.bounds("34", VOID, "heard", new long[] {0, 1}, 0, 0, 1);
    BUSY.refuses("34: at a CORNER that was not there", VOID, "heard", 2, 1);
    BUSY.refuses("34: it was nowhere", VOID, "heard", 3, 1);
    NEW.refuses("34: nothing was struck", VOID, "heard", 0, 1);
    NEW.refuses("34: nothing was struck", VOID, "heard", 0, 0);
    PlatesSing x = Due.with("c12;pab3");
    x.ear(0, 0);
    x.blow(0, 0, 9, 9);
    int then = x.heard(0, 9);
    x.ear(0, 1);
    DUE.is("34: of its CORNER then", x.heard(0, 9), then);
    x.ear(0, -1);
    DUE.is("34: though it is nowhere now", x.heard(0, 9), then);
    x.put(0, 0, 2, 1);
    DUE.is("34: though it is HELD now", x.heard(0, 9), then);
    x.ear(1, 0);
    DUE.is("34: an EAR that came later", x.heard(1, 9), VOID);
    x.roll(1, 1, 0);
    x.rolled(0, 3);
    DUE.is("34: rolled() is the latest", x.heard(1, 3), 0);
    DUE.is("34: it was nowhere then", x.heard(0, 3), VOID);
    DUE.is("34: its steps", x.heard(1, 4), VOID);
  }

  // Promise 35: "LOUD of an EAR (what -1), DIES by a number (what 0 ..). BAD; STATE: it was nowhere, or nothing was struck."
  private static void loud() {
    BUSY.bounds("35", BAD, "loud", new long[] {0, -1}, 0, 0, 3);
    BUSY.answers("35: the greatest what", 1, "loud", 0, 2147483647);
    BUSY.refuses("35: what -2", BAD, "loud", 0, -2);
    BUSY.refuses("35: the least what", BAD, "loud", 0, -2147483648);
    BUSY.refuses("35: it was nowhere", STATE, "loud", 3, -1);
    BUSY.refuses("35: it was nowhere", STATE, "loud", 2, 0);
    BUSY.refuses("35: BAD ahead of STATE", BAD, "loud", 3, -2);
    NEW.refuses("35: nothing was struck", STATE, "loud", 0, -1);
    NEW.refuses("35: nothing was struck", STATE, "loud", 0, 5);
    NEW.refuses("35: BAD ahead of STATE", BAD, "loud", 4, 5);
    // X of this one: -8, -14, -19, -21, -21, -18, -13, -6 (cutTowardZero)
    int[] dies = {8, 8, 8, 8, 8, 8, 8, 8, 8, 8, 8, 8, 8, 7, 7, 7, 7, 7, 6, 6, 6, 1, 1};
    PlatesSing x = Due.with("c1;sa9");
    x.ear(0, 0);
    x.blow(0, 0, -1, 8);
    DUE.is("35: the greatest size", x.loud(0, -1), 21);
    for (int n = 0; n < dies.length; n++) DUE.is("35: DIES by " + n, x.loud(0, n), dies[n]);
    x.blow(0, 0, -1, 1);
    DUE.is("35: one step, larger", x.loud(0, 7), 1);
    DUE.is("35: one step, no larger", x.loud(0, 8), 1);
    x.blow(0, 0, -1, 7);
    DUE.is("35: the last one is larger: the number of steps", x.loud(0, 12), 7);
    DUE.is("35: the last one is not larger", x.loud(0, 13), 7);
    PlatesSing y = Due.with("c1");
    y.ear(0, 0);
    y.blow(0, 0, 99, 200);
    DUE.is("35: the last of 200", y.loud(0, 158400), 1);
    DUE.is("35: the last of 200 is larger", y.loud(0, 158399), 200);
    DUE.is("35: LOUD", y.loud(0, -1), 158400);
  }

  // Promise 32: "A further BLOW for ROLL: how many. BAD (CORNER 0 .. 5, V, when), FULL: 6."; part 4: "when (0 .. 99)"
  private static void roll() {
    BUSY.bounds("32", BAD, "roll", new long[] {0, 5, 5}, 0, 0, 5);
    BUSY.bounds("32", BAD, "roll", new long[] {0, 5, 5}, 1, -99, 99);
    BUSY.bounds("32", BAD, "roll", new long[] {0, 5, 5}, 2, 0, 99);
    FULL_UP.refuses("32: six are told", FULL, "roll", 0, 5, 5);
    FULL_UP.refuses("32: BAD ahead of FULL", BAD, "roll", 6, 5, 5);
    FULL_UP.refuses("32: BAD ahead of FULL", BAD, "roll", 0, 100, 5);
    FULL_UP.refuses("32: BAD ahead of FULL", BAD, "roll", 0, 5, -1);
    PlatesSing x = Due.with("c1");
    for (int n = 1; n <= 6; n++) DUE.is("32: how many", x.roll(0, 99, 0), n);
    DUE.is("32: six", x.roll(0, 99, 0), FULL);
    DUE.is("33: all six at once", x.rolled(0, 200), 6 * 99 * 8 * 200);
    DUE.is("32: the first again", x.roll(0, -99, 0), 1);
  }

  // Promise 33: "as blow(); those at CORNERS that are HELD or not there do nothing; the list is none then. BAD; STATE: no BLOW is told."
  private static void rolled() {
    BUSY.bounds("33", BAD, "rolled", new long[] {0, 5}, 0, 0, 4);
    BUSY.bounds("33", BAD, "rolled", new long[] {0, 5}, 1, 1, 200);
    NEW.refuses("33: BAD ahead of STATE", BAD, "rolled", 0, 5);
    Edges shape = new Edges(DUE, x -> Due.shape(x, "c1"));
    shape.refuses("33: no BLOW is told", STATE, "rolled", 0, 5);
    shape.refuses("33: BAD ahead of STATE", BAD, "rolled", 0, 0);
    shape.refuses("33: BAD ahead of STATE", BAD, "rolled", 0, 201);
    PlatesSing x = shape.make();
    x.ear(0, 0);
    for (int when : new int[] {0, 1, 50, 98, 99}) {
      for (int t : new int[] {1, 2, 50, 51, 99, 100, 101, 200}) {
        x.roll(0, 1, when);
        DUE.is("33: at " + when + " of " + t, x.rolled(0, t), t > when ? 8 * (t - when) : 0);
        if (when > 0) DUE.is("33: nothing ahead of that step", x.heard(0, Math.min(when, t)), 0);
        DUE.is("33: the list is none then", x.rolled(0, t), STATE);
        DUE.is("56: steps", x.count(5), t);
      }
    }
    PlatesSing y = Due.with("c11;hb");
    y.roll(1, 99, 0);
    y.roll(2, 99, 0);
    y.roll(5, 99, 0);
    DUE.is("33: HELD or not there", y.rolled(0, 9), 0);
    DUE.is("33: the list is none then", y.roll(0, 1, 0), 1);
    DUE.is("33: one of them alone", y.rolled(0, 9), 72);
    y.roll(0, 4, 2);
    y.roll(0, -3, 2);
    y.roll(0, 2, 4);
    DUE.is("33: U is more by each", y.rolled(0, 5), 2 * 8 + 24);
    y.put(0, 0, 2, 1);
    y.roll(0, 4, 2);
    DUE.is("33: all HELD, yet as blow()", y.rolled(0, 7), 0);
    DUE.is("56: steps", y.count(5), 7);
  }

  // Promise 36: "n (1 .. 60) of them: how many. BAD; STATE; -11, -12 (no ROW of bytes, shorts, ints), -13 (i is no place of it)."
  private static void write() {
    long[] good = {0, 0, 0, 3};
    BUSY.bounds("36", BAD, "write", good, 0, 0, 3);
    BUSY.bounds("36", BAD, "write", good, 1, 0, 5);
    BUSY.bounds("36", BAD, "write", good, 3, 1, 60);
    BUSY.bounds("36: places of the row", -13, "write", good, 2, 0, 5);
    BUSY.refuses("36: it was nowhere", STATE, "write", 2, 0, 0, 1);
    BUSY.refuses("36: it was nowhere", STATE, "write", 3, 0, 0, 1);
    BUSY.refuses("36: STATE ahead of -11", STATE, "write", 3, 5, 0, 1);
    BUSY.refuses("36: STATE ahead of -12", STATE, "write", 3, 2, 0, 1);
    BUSY.refuses("36: STATE ahead of -13", STATE, "write", 3, 0, 6, 1);
    BUSY.refuses("36: BAD ahead of STATE", BAD, "write", 3, 0, 0, 0);
    BUSY.refuses("36: nothing is there", -11, "write", 0, 5, 0, 1);
    BUSY.refuses("36: nothing is there, ahead of its places", -11, "write", 0, 5, -1, 1);
    BUSY.refuses("36: longs", -12, "write", 0, 2, 0, 1);
    BUSY.refuses("36: booleans", -12, "write", 0, 3, 0, 1);
    BUSY.refuses("36: a BODY", -12, "write", 0, 4, 0, 1);
    BUSY.refuses("36: -12 ahead of -13", -12, "write", 0, 2, 4, 1);
    NEW.refuses("36: nothing was struck", STATE, "write", 0, 0, 0, 1);
    Edges empty = new Edges(DUE, x -> {
      Worlds.busy(x);
      x.row(0, 2, 0);
    });
    empty.refuses("36: a ROW of none has no place", -13, "write", 0, 0, 0, 1);
    // "it ends where the row ends, or its steps: how many"
    for (int steps : new int[] {1, 2, 5, 60, 61, 200}) {
      for (int size : new int[] {1, 2, 5, 59, 60}) {
        PlatesSing x = Due.with("c1");
        x.ear(0, 0);
        x.blow(0, 0, 1, steps);
        x.row(0, 2, size);
        for (int n : new int[] {1, 2, 59, 60}) {
          for (int i : new int[] {0, size / 2, size - 1}) {
            int due = Math.min(n, Math.min(size - i, steps));
            x.row(0, 2, size);
            DUE.is("36: how many", x.write(0, 0, i, n), due);
            DUE.is("36: the last one", x.element(0, i + due - 1), 8 * due);
            if (i > 0) DUE.is("36: ahead of place i", x.element(0, i - 1), 0);
            if (i + due < size) DUE.is("36: behind the last one", x.element(0, i + due), 0);
          }
        }
      }
    }
  }

  // Part 9: "what does not fit the sort is its greatest or least but one"; "The least number of bytes, shorts, ints is missing."
  private static void whatDoesNotFit() {
    // X as it comes by one or two blows on a free corner, damped: by sums of V, DAMP, step
    int[][] ways = {{1, 0, 32, 21, 127}, {1, 0, 0, 16, 128}, {1, 0, 21, 21, 129}, {99, 72, 11, 28, 32767},
        {64, 64, 0, 32, 32768}, {99, 49, 9, 32, 32769}};
    for (int[] way : ways) {
      for (int side = -1; side <= 1; side += 2) {
        PlatesSing x = Due.with("c1");
        x.ear(0, 0);
        x.damp(way[2]);
        x.roll(0, side * way[0], 0);
        x.roll(0, side * way[1], 0);
        x.rolled(0, 60);
        int last = way[3] - 1;
        DUE.is("34: X", x.heard(0, way[3]), side * way[4]);
        int[] greatest = {127, 32767, 2147483647};
        for (int sort = 0; sort <= 2; sort++) {
          x.row(sort, sort, 60);
          x.write(0, sort, 0, 60);
          DUE.is("36: sort " + sort, x.element(sort, last), side * Math.min(way[4], greatest[sort]));
        }
      }
    }
  }

  // Promise 37: "LOUDNESS of a period in a ROW of bytes, shorts, ints. BAD, -11, -12. (Held at 1999999999.)"; part 4: "period n (2 .. 60)"
  private static void loudness() {
    BUSY.bounds("37", BAD, "loudness", new long[] {0, 5}, 0, 0, 5);
    BUSY.bounds("37", BAD, "loudness", new long[] {0, 5}, 1, 2, 60);
    BUSY.refuses("37: nothing is there", -11, "loudness", 5, 5);
    BUSY.refuses("37: longs", -12, "loudness", 2, 5);
    BUSY.refuses("37: booleans", -12, "loudness", 3, 5);
    BUSY.refuses("37: a BODY", -12, "loudness", 4, 5);
    BUSY.refuses("37: BAD ahead of -11", BAD, "loudness", 5, 61);
    BUSY.refuses("37: BAD ahead of -12", BAD, "loudness", 2, 1);
    PlatesSing x = new PlatesSing();
    x.row(0, 2, 1);
    long[] held = {1333333332L, 1333333333L, 1333333334L, 2147483647L, -1333333333L, -1333333334L, -2147483647L};
    for (long v : held) {
      x.place(0, 0, v);
      DUE.is("37: held, " + v, x.loudness(0, 2), Math.min(1999999999L, Math.abs(v) + Math.abs(v) / 2));
    }
    x.row(0, 2, 60);
    for (int k = 0; k < 60; k++) x.place(0, k, k < 30 ? 2147483647 : -2147483647);
    DUE.is("37: held, all of the greatest size", x.loudness(0, 60), 1999999999);
    x.row(0, 2, 0);
    DUE.is("37: no elements", x.loudness(0, 2), 0);
    DUE.is("37: no elements", x.loudness(0, 60), 0);
  }

  private static int sign(int n, int k) {
    return Integer.signum(n - 2 * (k % n));
  }

  // "C: the sum of elements times the sign of (n - 2 (k % n)) (1, 0, -1) at k, S: likewise with k + n / 4; LOUDNESS: the greater size of both, and half of the lesser one, cut, added."
  private static void signs() {
    for (int k = 0; k < 60; k++) {
      PlatesSing x = new PlatesSing();
      x.row(0, 1, 60);
      x.place(0, k, -101);
      for (int n = 2; n <= 60; n++) {
        int both = Math.abs(sign(n, k)) + Math.abs(sign(n, k + n / 4));
        DUE.is("37: period " + n + " at " + k, x.loudness(0, n), both == 0 ? 0 : both == 1 ? 101 : 101 + 50);
      }
    }
    for (int n = 2; n <= 60; n++) {
      PlatesSing x = new PlatesSing();
      x.row(0, 0, 60);
      int c = 0;
      int s = 0;
      for (int k = 0; k < 60; k++) {
        int v = k * 37 % 11 - 4;
        x.place(0, k, v);
        c += v * sign(n, k);
        s += v * sign(n, k + n / 4);
      }
      c = Math.abs(c);
      s = Math.abs(s);
      DUE.is("37: period " + n, x.loudness(0, n), Math.max(c, s) + Math.min(c, s) / 2);
    }
  }

  // "Elements that are missing (section 9) are 0."; "The least number of bytes, shorts, ints is missing."
  private static void missing() {
    long[] least = {-128, -32768, -2147483648L};
    for (int sort = 0; sort <= 2; sort++) {
      PlatesSing x = new PlatesSing();
      x.row(0, sort, 2);
      x.place(0, 0, least[sort]);
      DUE.is("53: the least number stays what it is", x.element(0, 0), least[sort]);
      DUE.is("37: the least number is missing", x.loudness(0, 2), 0);
      x.place(0, 0, least[sort] + 1);
      long size = -(least[sort] + 1);
      DUE.is("37: the least but one is not", x.loudness(0, 2), Math.min(1999999999L, size + size / 2));
      x.place(0, 0, -least[sort] - 1);
      DUE.is("37: the greatest is not", x.loudness(0, 2), Math.min(1999999999L, size + size / 2));
      x.place(0, 0, -least[sort]);
      DUE.is("37: one more than the greatest is the least", x.loudness(0, 2), 0);
      x.place(0, 1, 9);
      DUE.is("37: the others are not missing", x.loudness(0, 60), 9 + 9 / 2);
      DUE.is("38: the first period that hears the other one", x.strongest(0), 3);
    }
    // what is the least number of one sort is an ordinary one of a wider sort
    PlatesSing y = new PlatesSing();
    y.row(0, 1, 1);
    y.place(0, 0, -128);
    DUE.is("37: -128 among shorts", y.loudness(0, 2), 192);
    y.row(0, 2, 1);
    y.place(0, 0, -32768);
    DUE.is("37: -32768 among ints", y.loudness(0, 2), 49152);
  }

  // Promise 38: "STRONGEST period. BAD, -11, -12; NOT: no elements."; part 4: "STRONGEST period from 2 to 60: .. of like ones the least"
  private static void strongest() {
    BUSY.bounds("38", BAD, "strongest", new long[] {0}, 0, 0, 5);
    BUSY.refuses("38: nothing is there", -11, "strongest", 5);
    BUSY.refuses("38: longs", -12, "strongest", 2);
    BUSY.refuses("38: booleans", -12, "strongest", 3);
    BUSY.refuses("38: a BODY", -12, "strongest", 4);
    for (int sort = 0; sort <= 4; sort++) {
      int s = sort;
      Edges e = new Edges(DUE, x -> x.row(0, s, 0));
      e.refuses("38: no elements, sort " + sort, sort <= 2 ? NOT : -12, "strongest", 0);
    }
    PlatesSing x = new PlatesSing();
    x.row(0, 2, 60);
    DUE.is("38: all 0: the least of like ones", x.strongest(0), 2);
    for (int k = 0; k < 60; k++) x.place(0, k, sign(60, k) * 1000 + sign(60, k + 15));
    DUE.is("38: the greatest period", x.strongest(0), 60);
    for (int k = 0; k < 60; k++) x.place(0, k, k % 2 == 0 ? 1000 : -1);
    DUE.is("38: the least period", x.strongest(0), 2);
    for (int k = 0; k < 60; k++) x.place(0, k, 2147483647L * sign(60, k));
    DUE.is("38: beyond what loudness() is held at", x.strongest(0), 60);
    // 90 of 60 elements is 1, 59 is 0: cut quotients
    x.row(0, 2, 60);
    x.place(0, 0, 59);
    x.place(0, 1, 1);
    DUE.is("38: 88 / 60 by period 2", x.loudness(0, 2), 88);
    DUE.is("38: 90 / 60 by period 3", x.loudness(0, 3), 90);
    DUE.is("38: quotients are cut, so these are alike", x.strongest(0), 2);
    x.place(0, 1, 40);
    DUE.is("38: 148 / 60 by period 3 is more", x.strongest(0), 3);
  }

  public static void main(String[] args) {
    damp();
    ears();
    earsWhereNoCornerIs();
    blows();
    fourEarsOf200();
    cutTowardZero();
    heldStay();
    heard();
    loud();
    roll();
    rolled();
    write();
    whatDoesNotFit();
    loudness();
    signs();
    missing();
    strongest();
    DUE.finish();
  }
}
