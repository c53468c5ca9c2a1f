import java.lang.reflect.InvocationTargetException;
import java.lang.reflect.Method;
import java.lang.reflect.Modifier;
import java.util.ArrayList;
import java.util.Comparator;
import java.util.List;
import java.util.Random;

/** Wild arguments in every state: no call may throw, and the same calls give the same answers (rules 7 and 13). */
public final class NeverThrowsTest {
  private static final int RUNS = 300, CALLS = 512;
  private static final long[] EDGES = {
    0, 1, 2, 3, 4, 5, 6, 7, 9, 10, 11, 12, 19, 24, 39, 40, 41, 49, 59, 60, 61, 99, 100, 119, 199, 200, 201, 500, 501,
    989, 990, 999, 1000, 9999, 10000, -1, -2, -99, -100, 0x10, 0x210, 0x3210, 0x76543210L, 1 << 28, 127, 128, -128,
    32767, -32768, 2147483647L, 2147483646L, -2147483648L, -2147483647L, Long.MAX_VALUE, Long.MIN_VALUE,
  };

  private static long run(int seed, List<Method> calls) throws ReflectiveOperationException {
    Random random = new Random(seed);
    PlatesSing x = new PlatesSing();
    long all = 7;
    if (seed % 10 != 0) Due.shape(x, "c1234;pab1;pbc5;pcd9;pda2;sa9;wb9;hd");
    if (seed % 3 == 0) Due.shape(x, "c111111;pab9;pac9;pad9;pae9;paf9;pbc9;pbd9;pbe9;pbf9;pcd9;pce9;pcf9;pde9;pdf9;pef9");
    for (int n = 0; n < CALLS; n++) {
      Method m = calls.get(random.nextInt(calls.size()));
      Class<?>[] types = m.getParameterTypes();
      Object[] args = new Object[types.length];
      for (int k = 0; k < types.length; k++) {
        long v = random.nextInt(3) == 0 ? EDGES[random.nextInt(EDGES.length)] : random.nextInt(4) - 1;
        if (types[k] == long.class) args[k] = v;
        else args[k] = (int) v;
      }
      all = 31 * all + ((Number) m.invoke(x, args)).longValue();
    }
    return all;
  }

  public static void main(String[] args) throws ReflectiveOperationException {
    Due due = new Due("NeverThrowsTest");
    List<Method> calls = new ArrayList<>();
    for (Method m : PlatesSing.class.getDeclaredMethods()) if (Modifier.isPublic(m.getModifiers())) calls.add(m);
    calls.sort(Comparator.comparing(Method::getName));
    for (int seed = 0; seed < RUNS; seed++) {
      try {
        due.is("the same run twice, " + seed, run(seed, calls), run(seed, calls));
      } catch (InvocationTargetException e) {
        e.getCause().printStackTrace(System.out);
        due.is("run " + seed + " threw", 1, 0);
      }
    }
    due.finish();
  }
}
