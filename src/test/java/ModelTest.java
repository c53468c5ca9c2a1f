import java.lang.reflect.Method;
import java.lang.reflect.Modifier;
import java.util.ArrayList;
import java.util.Arrays;
import java.util.Comparator;
import java.util.HashMap;
import java.util.List;
import java.util.Map;
import java.util.Random;

/** Long random runs of all calls: PlatesSing and SlowPlates must answer alike; every promise is met many times. */
public final class ModelTest {
  private static final int RUNS = 400, CALLS = 500;

  /** The ordinary range of each argument: lowest, highest, lowest, highest, .. */
  private static final Map<String, int[]> RANGES = new HashMap<>();

  private static void range(String name, int... r) {
    RANGES.put(name, r);
  }

  static {
    range("feed", 1, 4, 0, 2000000000);
    range("shape");
    range("of", 0, 3, 0, 45);
    range("piece", 0, 3, 0, 4, 0, 4, 0, 2);
    range("put", 0, 3, 0, 4, 0, 2, 0, 9);
    range("crack", 0, 3, 0, 4, 0, 4, 0, 5);
    range("stroke", 0, 3, 0, 4, -1, 4);
    range("below", 0, 3, 0, 400, 0, 1);
    range("sums", 0, 3, 0, 999, 0, 4);
    range("shut", 0, 3, 0, 4, 1, 9);
    range("still", 0, 3, 0, 4, 0, 99);
    range("split", 0, 3, 0, 4, 1, 9, 0, 49);
    range("bounds", 0, 3, 0, 4, 1, 9, 0, 8, 0, 1);
    range("led", 0, 3, 0, 4, 1, 9, 0, 1);
    range("turnsOf", 0, 3);
    range("orbit", 0, 3, 0, 4);
    range("table", 0, 5, 0, 5);
    range("alike", 0, 5, 0, 5, 0, 1);
    range("plan", 0, 1, 0, 3, -1, 3, 1, 3);
    range("wish", 0, 3, 1, 9, 0, 60);
    range("moved", 0, 3, 0, 3, 1, 9);
    range("tune", 0, 3);
    range("forget");
    range("hear", 0, 20);
    range("fits", 0, 3, 1, 9, 0, 2);
    range("next", 0, 3, 1, 9);
    range("unhear");
    range("damp", 0, 500);
    range("ear", 0, 3, -1, 5);
    range("blow", 0, 3, 0, 4, -99, 99, 1, 200);
    range("roll", 0, 5, -99, 99, 0, 99);
    range("rolled", 0, 3, 1, 200);
    range("heard", 0, 3, 1, 200);
    range("loud", 0, 3, -1, 400);
    range("write", 0, 3, 0, 5, 0, 30, 1, 60);
    range("loudness", 0, 5, 2, 60);
    range("strongest", 0, 5);
    range("ratio", 1, 9, 1, 9);
    range("agree", 0, 65535, 2, 5, 0, 200, 0, 1);
    range("unratio");
    range("join", 0, 3, 0, 3, 0, 33, 1, 9);
    range("law", 0, 11, 0, 300);
    range("undo");
    range("redo");
    range("digest");
    range("body", 0, 5);
    range("act", 0, 20, 0, 3, -2147483648, 2147483647);
    range("trace", 0, 13);
    range("keep", 0, 5, -1, 20);
    range("row", 0, 5, 0, 4, 0, 60);
    range("place", 0, 5, 0, 40, -70000, 70000);
    range("element", 0, 5, 0, 40);
    range("shift", 0, 5, 0, 20, 0, 5, 0, 20, 0, 20);
    range("taken", 0, 5, 0, 5);
    range("count", 0, 5);
  }

  /** Calls that wipe out much, or that fill something up for good, are rare so that runs get somewhere. */
  private static int oneIn(String name) {
    switch (name) {
      case "feed": case "shape": return 12;
      case "forget": case "unhear": case "unratio": return 8;
      case "hear": case "join": case "body": return 5;
      default: return 1;
    }
  }

  private static String text(Random random) {
    StringBuilder s = new StringBuilder("c");
    int n = 1 + random.nextInt(random.nextInt(4) == 0 ? 6 : 4);
    boolean plain = random.nextInt(3) == 0;
    for (int i = 0; i < n; i++) s.append(plain ? 2 : 1 + random.nextInt(9));
    List<String> rest = new ArrayList<>();
    for (int i = 0; i < n; i++) {
      char c = (char) ('a' + i);
      for (int j = i + 1; j < n; j++) {
        char d = (char) ('a' + j);
        String pair = random.nextBoolean() ? "" + c + d : "" + d + c;
        if (random.nextInt(3) != 0) rest.add(";p" + pair + (plain ? 3 : 1 + random.nextInt(9)));
      }
      if (!plain && random.nextInt(4) == 0) rest.add(";s" + c + (1 + random.nextInt(9)));
      if (random.nextInt(10) == 0) rest.add(";h" + c);
      if (!plain && random.nextInt(4) == 0) rest.add(";w" + c + (1 + random.nextInt(9)));
    }
    java.util.Collections.shuffle(rest, random);
    for (String part : rest) if (s.length() + part.length() <= 116) s.append(part);
    if (random.nextInt(5) == 0) {
      int at = random.nextInt(s.length());
      String signs = "cpshwabcdefg;0129 ";
      switch (random.nextInt(3)) {
        case 0: s.setCharAt(at, signs.charAt(random.nextInt(signs.length()))); break;
        case 1: s.setLength(at); break;
        default: s.insert(at, signs.charAt(random.nextInt(signs.length())));
      }
    }
    return s.toString();
  }

  private static Object[] arguments(Random random, Method m) {
    int[] r = RANGES.get(m.getName());
    Class<?>[] types = m.getParameterTypes();
    Object[] args = new Object[types.length];
    for (int k = 0; k < types.length; k++) {
      long low = r[2 * k], high = r[2 * k + 1];
      long v = low + (long) (random.nextDouble() * (high - low + 1));
      if (random.nextInt(60) == 0) {
        long[] odd = {low - 1, high + 1, low - 2, high + 30, -2147483648L, 2147483647L, -1, 0, 10, random.nextInt()};
        v = odd[random.nextInt(odd.length)];
      }
      if (types[k] == long.class) args[k] = random.nextInt(9) == 0 ? random.nextLong() : v;
      else args[k] = (int) v;
    }
    if (m.getName().equals("agree") && random.nextInt(8) != 0) args[0] = shapesInOrder(random, (int) args[1] & 7);
    return args;
  }

  /** A number drawn from a plain range is nearly always BAD for agree(): most are made of n digits of shapes. */
  private static int shapesInOrder(Random random, int n) {
    int number = 0;
    for (int k = 0; k < n; k++) number = 16 * number + random.nextInt(random.nextInt(20) == 0 ? 16 : 4);
    return random.nextInt(10) == 0 ? number << 4 : number;
  }

  private static List<Method> calls() throws ReflectiveOperationException {
    List<Method> all = new ArrayList<>();
    for (Method m : PlatesSing.class.getDeclaredMethods()) if (Modifier.isPublic(m.getModifiers())) all.add(m);
    all.sort(Comparator.comparing(Method::getName));
    if (all.size() != 55) throw new IllegalStateException("the face has " + all.size() + " methods");
    return all;
  }

  private final Due due = new Due("ModelTest");
  private final List<Method> calls = calls();
  private final Map<String, Method> slow = new HashMap<>();
  private boolean wrong = false;

  private ModelTest() throws ReflectiveOperationException {
    for (Method m : calls) {
      Method s = SlowPlates.class.getDeclaredMethod(m.getName(), m.getParameterTypes());
      s.setAccessible(true);
      slow.put(m.getName(), s);
    }
  }

  private void call(int run, PlatesSing x, SlowPlates y, Method m, Object[] args) throws ReflectiveOperationException {
    long got = ((Number) m.invoke(x, args)).longValue();
    long want = SlowPlates.answer(slow.get(m.getName()), y, args);
    due.is("run " + run + ": " + m.getName() + Arrays.toString(args), got, want);
    wrong |= got != want;
  }

  private void run(int run) throws ReflectiveOperationException {
    Random random = new Random(run);
    PlatesSing x = new PlatesSing();
    SlowPlates y = new SlowPlates();
    Method feed = PlatesSing.class.getMethod("feed", int.class, int.class);
    Method shape = PlatesSing.class.getMethod("shape");
    Method digest = PlatesSing.class.getMethod("digest");
    int made = 0;
    for (int n = 0; n < CALLS && !wrong; n++) {
      if (n < 60 && made < 4 || random.nextInt(40) == 0) {
        String text = text(random);
        for (int i = 0; i < text.length(); i++) call(run, x, y, feed, new Object[] {1, (int) text.charAt(i)});
        call(run, x, y, shape, new Object[0]);
        made++;
        n += 4;
        continue;
      }
      Method m = calls.get(random.nextInt(calls.size()));
      if (random.nextInt(oneIn(m.getName())) != 0) continue;
      call(run, x, y, m, arguments(random, m));
      if (n % 10 == 0) call(run, x, y, digest, new Object[0]);
    }
  }

  public static void main(String[] args) throws ReflectiveOperationException {
    ModelTest test = new ModelTest();
    for (int run = 0; run < RUNS && !test.wrong; run++) test.run(run);
    test.due.finish();
  }
}
