import java.lang.reflect.Method;
import java.util.Arrays;
import java.util.function.Consumer;

/** Calls at the edges of what is allowed, each on an object of its own in one and the same state. */
final class Edges {
  private final Due due;
  private final Consumer<PlatesSing> state;
  private final String untouched;

  Edges(Due due, Consumer<PlatesSing> state) {
    this.due = due;
    this.state = state;
    this.untouched = Snapshot.of(make());
  }

  PlatesSing make() {
    PlatesSing x = new PlatesSing();
    state.accept(x);
    return x;
  }

  private static Method method(String call) {
    for (Method m : PlatesSing.class.getDeclaredMethods()) if (m.getName().equals(call)) return m;
    throw new IllegalArgumentException(call);
  }

  private static long ask(PlatesSing x, String call, long... args) {
    Method m = method(call);
    Object[] boxed = new Object[args.length];
    for (int k = 0; k < args.length; k++) {
      if (m.getParameterTypes()[k] == long.class) boxed[k] = args[k];
      else boxed[k] = (int) args[k];
    }
    try {
      return ((Number) m.invoke(x, boxed)).longValue();
    } catch (ReflectiveOperationException e) {
      throw new IllegalStateException(call + Arrays.toString(args), e);
    }
  }

  /** The call answers so. */
  void answers(String promise, long answer, String call, long... args) {
    due.is(promise + ": " + call + Arrays.toString(args), ask(make(), call, args), answer);
  }

  /** The call is refused with that answer, and nothing has changed by it. */
  void refuses(String promise, long answer, String call, long... args) {
    PlatesSing x = make();
    String what = promise + ": " + call + Arrays.toString(args);
    due.is(what, ask(x, call, args), answer);
    String touched = Snapshot.of(x);
    if (!touched.equals(untouched)) System.out.println(what + "\n  " + untouched + "\n  " + touched);
    due.is(what + " changed something", touched.equals(untouched) ? 0 : 1, 0);
  }

  /** Each row of arguments is refused. */
  void refusesAll(String promise, long answer, String call, long[][] rows) {
    for (long[] args : rows) refuses(promise, answer, call, args);
  }

  /** As argument k the least and the greatest number are not refused; those next to them and far from them are. */
  void bounds(String promise, long refusal, String call, long[] good, int k, long least, long greatest) {
    for (long v : new long[] {least, greatest}) {
      long answer = ask(make(), call, with(good, k, v));
      due.is(promise + ": allowed " + call + Arrays.toString(with(good, k, v)), answer == refusal ? 1 : 0, 0);
    }
    long[] outside = {least - 1, greatest + 1, least - 256, greatest + 256, least - 65536, greatest + 65536,
        Integer.MIN_VALUE, Integer.MAX_VALUE};
    for (long v : outside) {
      if (v < Integer.MIN_VALUE || v > Integer.MAX_VALUE || v >= least && v <= greatest) continue;
      refuses(promise, refusal, call, with(good, k, v));
    }
  }

  private static long[] with(long[] args, int k, long v) {
    long[] copy = args.clone();
    copy[k] = v;
    return copy;
  }
}
