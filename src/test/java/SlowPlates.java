import java.util.ArrayList;
import java.util.HashMap;
import java.util.List;
import java.util.Map;
import java.util.TreeMap;

/**
 * The document once more, by its words and without any thought of speed: all minors by their definition, all marks
 * one by one, all orders, all sets. ModelTest holds PlatesSing against it.
 */
final class SlowPlates {
  static final int BAD = -1, NOT = -2, FULL = -3, STATE = -4, VOID = -2000000000;

  /** An answer that is no ordinary one. */
  private static final class Refused extends RuntimeException {
    private static final long serialVersionUID = 1;
    final int code;

    Refused(int code) {
      super(null, null, false, false);
      this.code = code;
    }
  }

  private static final class Piece implements Cloneable {
    int body, a, b, stiff, crack;
  }

  private static final class Plate {
    List<int[]> corners = new ArrayList<>(); // HEAVY, PAD, WEIGHT, HELD
    List<Piece> pieces = new ArrayList<>();
    Plate one, other;

    Plate copy() {
      Plate p = new Plate();
      for (int[] c : corners) p.corners.add(c.clone());
      for (Piece q : pieces) {
        Piece r = new Piece();
        r.body = q.body;
        r.a = q.a;
        r.b = q.b;
        r.stiff = q.stiff;
        r.crack = q.crack;
        p.pieces.add(r);
      }
      return p;
    }

    void become(Plate p) {
      Plate c = p.copy();
      corners = c.corners;
      pieces = c.pieces;
    }

    Piece between(int a, int b) {
      for (Piece p : pieces) if (p.a == a && p.b == b || p.a == b && p.b == a) return p;
      return null;
    }

    int counts(int a, int b) {
      Piece p = between(a, b);
      return p == null ? 0 : p.stiff - p.crack;
    }

    int mass(int i) {
      return Math.min(9, corners.get(i)[0] + corners.get(i)[2]);
    }

    List<Integer> free() {
      List<Integer> f = new ArrayList<>();
      for (int i = 0; i < corners.size(); i++) if (corners.get(i)[3] == 0) f.add(i);
      return f;
    }

    String key() {
      StringBuilder s = new StringBuilder();
      for (int[] c : corners) s.append(c[0]).append(c[1]).append(c[2]).append(c[3]).append(' ');
      for (Piece p : pieces) s.append(p.a).append(p.b).append(p.stiff - p.crack).append(' ');
      return s.toString();
    }
  }

  private static final class Done {
    Plate plate, before, after;
  }

  private static final class Part {
    int number, kind;
    Plate of;
  }

  private static final class Row {
    int sort;
    long[] at;
  }

  private final StringBuilder tape = new StringBuilder();
  private final List<Plate> plates = new ArrayList<>();
  private final List<Part> parts = new ArrayList<>();
  private final List<Done> done = new ArrayList<>();
  private final List<Done> undone = new ArrayList<>();
  private Plate planned;
  private final List<int[]> strokes = new ArrayList<>(); // a, b, often
  private final List<int[]> wishes = new ArrayList<>();
  private final List<Integer> heardTones = new ArrayList<>();
  private final List<int[]> rolls = new ArrayList<>();
  private final List<int[]> ratios = new ArrayList<>();
  private final int[] ears = {-1, -1, -1, -1};
  private final int[] earsThen = {-1, -1, -1, -1};
  private int damp;
  private final List<int[]> steps = new ArrayList<>();
  private final List<Integer> ran = new ArrayList<>();
  private final Object[] shelves = new Object[6];
  private static final Map<String, int[]> BELOWS = new HashMap<>();

  // ---- looking at numbers

  private static void need(boolean good) {
    need(good, BAD);
  }

  private static void need(boolean good, int code) {
    if (!good) throw new Refused(code);
  }

  private Plate plate(int n) {
    need(n >= 0 && n < plates.size());
    return plates.get(n);
  }

  private static void corner(Plate p, int c) {
    need(c >= 0 && c < p.corners.size());
  }

  private static void tone(Plate p, int i, int q) {
    need(i >= 0 && i < p.free().size() && q >= 1 && q <= 9);
  }

  private static void mark(int mark) {
    need(mark >= 0 && mark / 10 <= 99 && mark % 10 >= 1);
  }

  // ---- sums and tones

  private static long[][] matrix(Plate s, int p, int q) {
    List<Integer> f = s.free();
    long[][] a = new long[f.size()][f.size()];
    for (int r = 0; r < f.size(); r++) {
      for (int c = 0; c < f.size(); c++) {
        int i = f.get(r);
        if (r != c) {
          a[r][c] = -(long) q * s.counts(i, f.get(c));
          continue;
        }
        long all = s.corners.get(i)[1];
        for (int j = 0; j < s.corners.size(); j++) all += s.counts(i, j);
        a[r][r] = q * all - (long) p * s.mass(i);
      }
    }
    return a;
  }

  private static long det(long[][] a, int rows, int columns) {
    if (rows == 0) return 1;
    int r = Integer.numberOfTrailingZeros(rows);
    long sum = 0;
    int sign = 1;
    for (int c = 0; c < a.length; c++) {
      if ((columns >> c & 1) == 0) continue;
      if (a[r][c] != 0) sum += sign * a[r][c] * det(a, rows & rows - 1, columns & ~(1 << c));
      sign = -sign;
    }
    return sum;
  }

  private static long[] minors(Plate s, int p, int q) {
    long[][] a = matrix(s, p, q);
    long[] e = new long[a.length + 1];
    for (int set = 0; set < 1 << a.length; set++) e[Integer.bitCount(set)] += det(a, set, set);
    return e;
  }

  private static int changes(long[] e) {
    int n = 0;
    long latest = 1;
    for (long v : e) {
      if (v == 0) continue;
      if (v < 0 != latest < 0) n++;
      latest = v;
    }
    return n;
  }

  private static int zeros(long[] e) {
    int n = 0;
    while (n < e.length - 1 && e[e.length - 1 - n] == 0) n++;
    return n;
  }

  private static int shutOf(Plate s, int i, int q) {
    int[] belows = BELOWS.computeIfAbsent(s.key() + "/" + q, k -> {
      int[] b = new int[100];
      for (int p = 0; p < 100; p++) b[p] = changes(minors(s, p, q));
      return b;
    });
    int p = 99;
    while (belows[p] > i) p--;
    return p;
  }

  // ---- 2 to 8

  int feed(int n, int v) {
    if (n < 1 || n > 4) return BAD;
    if (tape.length() + n > 120) return FULL;
    for (int k = 0; k < n; k++) tape.append((char) (v >> 8 * k & 255));
    return tape.length();
  }

  private static final class Fault extends Exception {
    private static final long serialVersionUID = 1;
    final int at;

    Fault(int at) {
      super(null, null, false, false);
      this.at = at;
    }
  }

  private char sign(int at) throws Fault {
    if (at >= tape.length()) throw new Fault(tape.length());
    return tape.charAt(at);
  }

  private int digit(int at) throws Fault {
    char c = sign(at);
    if (c < '1' || c > '9') throw new Fault(at);
    return c - '0';
  }

  private int letter(int at, Plate p) throws Fault {
    char c = sign(at);
    if (c < 'a' || c >= 'a' + p.corners.size()) throw new Fault(at);
    return c - 'a';
  }

  private Plate read() throws Fault {
    Plate p = new Plate();
    if (sign(0) != 'c') throw new Fault(0);
    int at = 1;
    do {
      p.corners.add(new int[] {digit(at), 0, 0, 0});
      at++;
    } while (at < tape.length() && tape.charAt(at) != ';' && p.corners.size() < 6);
    while (at < tape.length()) {
      if (sign(at) != ';') throw new Fault(at);
      char kind = sign(at + 1);
      if ("pshw".indexOf(kind) < 0) throw new Fault(at + 1);
      int a = letter(at + 2, p);
      if (kind == 'p') {
        int b = letter(at + 3, p);
        if (a == b || p.between(a, b) != null) throw new Fault(at + 3);
        Piece q = new Piece();
        q.a = Math.min(a, b);
        q.b = Math.max(a, b);
        q.stiff = digit(at + 4);
        p.pieces.add(q);
        at += 5;
      } else {
        int field = kind == 's' ? 1 : kind == 'w' ? 2 : 3;
        if (p.corners.get(a)[field] != 0) throw new Fault(at + 2);
        p.corners.get(a)[field] = kind == 'h' ? 1 : digit(at + 3);
        at += kind == 'h' ? 3 : 4;
      }
    }
    return p;
  }

  private int add(Plate p) {
    for (Piece q : p.pieces) {
      Part part = new Part();
      part.number = parts.size();
      part.kind = 1;
      part.of = p;
      q.body = part.number;
      parts.add(part);
    }
    plates.add(p);
    return plates.size() - 1;
  }

  int shape() {
    Plate p;
    try {
      p = read();
    } catch (Fault f) {
      tape.setLength(0);
      return -100 - f.at;
    }
    if (plates.size() == 12 || parts.size() + p.pieces.size() > 200) return FULL;
    tape.setLength(0);
    return add(p);
  }

  int of(int shape, int what) {
    if (shape < 0 || shape >= plates.size() || what < 0) return VOID;
    Plate p = plates.get(shape);
    switch (what) {
      case 0: return p.corners.size();
      case 1: return p.pieces.size();
      case 2: return p.free().size();
      default:
    }
    if (what < 10 || what > 49 || what % 10 >= p.corners.size()) return VOID;
    return p.corners.get(what % 10)[what / 10 - 1];
  }

  private static Piece pieceOf(Plate p, int a, int b) {
    Piece q = p.between(a, b);
    need(q != null && a != b, NOT);
    return q;
  }

  int piece(int shape, int a, int b, int what) {
    Plate p = plate(shape);
    corner(p, a);
    corner(p, b);
    need(what >= 0 && what <= 2);
    Piece q = pieceOf(p, a, b);
    return what == 0 ? q.body : what == 1 ? q.stiff : q.crack;
  }

  private void note(Plate p, Plate before) {
    if (full(p).equals(full(before))) return;
    Done d = new Done();
    d.plate = p;
    d.before = before;
    d.after = p.copy();
    done.add(d);
    if (done.size() > 40) done.remove(0);
    undone.clear();
  }

  private static String full(Plate p) {
    StringBuilder s = new StringBuilder(p.key());
    for (Piece q : p.pieces) s.append(q.stiff).append(q.crack);
    return s.toString();
  }

  int put(int shape, int corner, int what, int v) {
    Plate p = plate(shape);
    corner(p, corner);
    need(what >= 0 && what <= 2 && v >= 0 && v <= (what == 2 ? 1 : 9));
    Plate before = p.copy();
    int was = p.corners.get(corner)[what + 1];
    p.corners.get(corner)[what + 1] = v;
    note(p, before);
    return was;
  }

  int crack(int shape, int a, int b, int c) {
    Plate p = plate(shape);
    corner(p, a);
    corner(p, b);
    need(c >= 0 && c <= 9);
    Piece q = pieceOf(p, a, b);
    need(c <= q.stiff);
    Plate before = p.copy();
    int was = q.crack;
    q.crack = c;
    note(p, before);
    return was;
  }

  /** One STROKE: false, if something would fall below 1. */
  private static boolean strokes(Plate p, int a, int b) {
    if (b == -1) {
      p.corners.get(a)[0]--;
      return p.corners.get(a)[0] >= 1;
    }
    Piece q = p.between(a, b);
    q.stiff--;
    if (q.crack > q.stiff) q.crack = q.stiff;
    return q.stiff >= 1;
  }

  int stroke(int shape, int a, int b) {
    Plate p = plate(shape);
    corner(p, a);
    if (b != -1) {
      corner(p, b);
      pieceOf(p, a, b);
    }
    Plate after = p.copy();
    need(strokes(after, a, b), STATE);
    Plate before = p.copy();
    p.become(after);
    note(p, before);
    return b == -1 ? p.corners.get(a)[0] : p.between(a, b).stiff;
  }

  // ---- 9 to 15

  int below(int shape, int mark, int what) {
    Plate p = plate(shape);
    mark(mark);
    need(what == 0 || what == 1);
    long[] e = minors(p, mark / 10, mark % 10);
    return what == 0 ? changes(e) : zeros(e);
  }

  long sums(int shape, int mark, int k) {
    try {
      Plate p = plate(shape);
      mark(mark);
      need(k >= 0 && k <= p.free().size());
      return minors(p, mark / 10, mark % 10)[k];
    } catch (Refused r) {
      return Long.MIN_VALUE;
    }
  }

  int shut(int shape, int i, int q) {
    Plate p = plate(shape);
    tone(p, i, q);
    return shutOf(p, i, q);
  }

  int still(int shape, int corner, int mark) {
    Plate p = plate(shape);
    corner(p, corner);
    mark(mark);
    need(p.corners.get(corner)[3] == 0);
    int free = zeros(minors(p, mark / 10, mark % 10));
    Plate h = p.copy();
    h.corners.get(corner)[3] = 1;
    return free > 0 && zeros(minors(h, mark / 10, mark % 10)) >= free ? 1 : 0;
  }

  int split(int shape, int i, int q, int at) {
    Plate p = plate(shape);
    tone(p, i, q);
    need(at >= 0 && at % 10 != 0);
    corner(p, at / 10);
    int[] c = p.corners.get(at / 10);
    need(c[3] == 0 && c[2] == 0, STATE);
    Plate w = p.copy();
    w.corners.get(at / 10)[2] = at % 10;
    int n = 0;
    for (int j = 0; j < p.free().size(); j++) {
      if (shutOf(p, j, q) == shutOf(p, i, q) && shutOf(w, j, q) != shutOf(p, j, q)) n++;
    }
    return n;
  }

  int bounds(int shape, int i, int q, int d, int what) {
    Plate p = plate(shape);
    tone(p, i, q);
    need(d >= 0 && d <= 8 && (what == 0 || what == 1));
    Plate w = p.copy();
    for (Piece x : w.pieces) {
      x.stiff = what == 0 ? Math.max(1, x.stiff - d) : Math.min(9, x.stiff + d);
      if (x.crack > x.stiff) x.crack = x.stiff;
    }
    for (int[] c : w.corners) c[0] = what == 0 ? Math.min(9, c[0] + d) : Math.max(1, c[0] - d);
    return shutOf(w, i, q);
  }

  int led(int shape, int i, int q, int what) {
    Plate p = plate(shape);
    tone(p, i, q);
    need(what == 0 || what == 1);
    if (p.pieces.isEmpty()) return what == 0 ? NOT : 0;
    TreeMap<Integer, Integer> firstByFall = new TreeMap<>();
    for (int k = 0; k < p.pieces.size(); k++) {
      Plate w = p.copy();
      w.pieces.get(k).crack = w.pieces.get(k).stiff;
      firstByFall.putIfAbsent(shutOf(p, i, q) - shutOf(w, i, q), p.pieces.get(k).body);
    }
    return what == 0 ? firstByFall.lastEntry().getValue() : firstByFall.lastKey();
  }

  // ---- 16 to 19

  private static List<int[]> orders(Plate s, Plate o) {
    List<int[]> all = new ArrayList<>();
    int n = s.corners.size();
    if (n != o.corners.size()) return all;
    int most = 1;
    for (int i = 0; i < n; i++) most *= n;
    for (int code = 0; code < most; code++) {
      int[] r = new int[n];
      int rest = code;
      int seen = 0;
      for (int i = n - 1; i >= 0; i--) {
        r[i] = rest % n;
        rest /= n;
        seen |= 1 << r[i];
      }
      if (seen == (1 << n) - 1 && brings(s, o, r)) all.add(r);
    }
    return all;
  }

  private static boolean brings(Plate s, Plate o, int[] r) {
    for (int i = 0; i < r.length; i++) {
      for (int f = 0; f < 4; f++) if (s.corners.get(i)[f] != o.corners.get(r[i])[f]) return false;
      for (int j = 0; j < r.length; j++) if (i != j && s.counts(i, j) != o.counts(r[i], r[j])) return false;
    }
    return true;
  }

  int turnsOf(int shape) {
    Plate p = plate(shape);
    return orders(p, p).size();
  }

  int orbit(int shape, int corner) {
    Plate p = plate(shape);
    corner(p, corner);
    int bits = 0;
    for (int[] r : orders(p, p)) bits |= 1 << r[corner];
    return bits;
  }

  int table(int shape, int other) {
    List<int[]> all = orders(plate(shape), plate(other));
    need(!all.isEmpty(), NOT);
    int digits = 0;
    for (int d : all.get(0)) digits = 10 * digits + d;
    return digits;
  }

  private static long divisor(Plate p) {
    long d = 1;
    for (int i : p.free()) d *= p.mass(i);
    return d;
  }

  int alike(int shape, int other, int what) {
    Plate s = plate(shape);
    Plate o = plate(other);
    need(what == 0 || what == 1);
    int n = s.free().size();
    if (n != o.free().size()) return 0;
    for (int p = 0; p <= 6; p++) {
      if (minors(s, p, 1)[n] * divisor(o) != minors(o, p, 1)[n] * divisor(s)) return 0;
    }
    return what == 0 || orders(s, o).isEmpty() ? 1 : 0;
  }

  // ---- 20 to 28

  int plan(int shape, int a, int b, int often) {
    Plate p = plate(shape);
    corner(p, a);
    if (b != -1) corner(p, b);
    need(often >= 1 && often <= 3);
    need(strokes.isEmpty() || planned == p);
    int x = b == -1 ? a : Math.min(a, b);
    int y = b == -1 ? -1 : Math.max(a, b);
    for (int[] s : strokes) need(s[0] != x || s[1] != y);
    if (b != -1) pieceOf(p, a, b);
    need(strokes.size() < 6, FULL);
    planned = p;
    strokes.add(new int[] {x, y, often});
    return strokes.size();
  }

  int wish(int i, int q, int v) {
    need(i >= 0 && i <= 5 && q >= 1 && q <= 9 && v >= 0 && v <= 99);
    need(!strokes.isEmpty(), STATE);
    tone(planned, i, q);
    for (int[] w : wishes) need(w[0] != i || w[1] != q);
    need(wishes.size() < 6, FULL);
    wishes.add(new int[] {i, q, v});
    return wishes.size();
  }

  int moved(int k, int i, int q) {
    need(k >= 0 && k < strokes.size());
    tone(planned, i, q);
    Plate w = planned.copy();
    need(strokes(w, strokes.get(k)[0], strokes.get(k)[1]), STATE);
    return shutOf(w, i, q);
  }

  int tune(int what) {
    need(what >= 0 && what <= 3);
    need(!strokes.isEmpty() && !wishes.isEmpty(), STATE);
    for (int[] w : wishes) need(w[0] < planned.free().size(), STATE);
    int fewest = 9, fewestDigits = 0, leastSum = Integer.MAX_VALUE, leastSize = 9;
    for (int row = 0; row < 10000; row++) { // every row of digits, 0: no stroke
      int size = 0;
      boolean rising = true;
      int[] often = new int[10];
      for (int rest = row, later = 9; rest > 0; rest /= 10) {
        if (rest % 10 == 0 || rest % 10 > later) rising = false;
        later = rest % 10;
        often[later]++;
        size++;
      }
      for (int d = 1; d < 10; d++) if (often[d] > 0 && (d > strokes.size() || often[d] > strokes.get(d - 1)[2])) rising = false;
      if (!rising) continue;
      Plate w = planned.copy();
      boolean good = true;
      for (int d = 1; d < 10; d++) {
        for (int n = 0; n < often[d] && good; n++) good = strokes(w, strokes.get(d - 1)[0], strokes.get(d - 1)[1]);
      }
      if (!good) continue;
      int sum = 0;
      for (int[] x : wishes) sum += Math.abs(shutOf(w, x[0], x[1]) - x[2]);
      if (sum == 0 && size < fewest) {
        fewest = size;
        fewestDigits = row;
      }
      if (sum < leastSum || sum == leastSum && size < leastSize) {
        leastSum = sum;
        leastSize = size;
      }
    }
    if (what == 2) return leastSum;
    if (what == 3) return leastSize;
    need(fewest < 9, NOT);
    return what == 0 ? fewest : fewestDigits;
  }

  int forget() {
    int n = strokes.size();
    strokes.clear();
    wishes.clear();
    return n;
  }

  int hear(int v) {
    need(v >= 0 && v <= 99);
    need(heardTones.size() < 6, FULL);
    heardTones.add(v);
    return heardTones.size();
  }

  /** Those that fit: plates, each with its BODY and crack told in fitting. */
  private List<Plate> fitting(Plate p, int q, List<int[]> told) {
    List<Plate> all = new ArrayList<>();
    Plate sound = p.copy();
    for (Piece x : sound.pieces) x.crack = 0;
    for (int k = -1; k < p.pieces.size(); k++) {
      for (int c = k < 0 ? 0 : 1; c <= (k < 0 ? 0 : p.pieces.get(k).stiff); c++) {
        Plate w = sound.copy();
        if (k >= 0) w.pieces.get(k).crack = c;
        boolean good = true;
        for (int i = 0; i < heardTones.size(); i++) good &= shutOf(w, i, q) == heardTones.get(i);
        if (!good) continue;
        all.add(w);
        told.add(new int[] {k < 0 ? -1 : p.pieces.get(k).body, c});
      }
    }
    return all;
  }

  int fits(int shape, int q, int what) {
    Plate p = plate(shape);
    need(q >= 1 && q <= 9 && what >= 0 && what <= 2 && heardTones.size() <= p.free().size());
    List<int[]> told = new ArrayList<>();
    int n = fitting(p, q, told).size();
    if (what == 0) return n;
    need(n > 0, NOT);
    return told.get(0)[what - 1];
  }

  int next(int shape, int q) {
    Plate p = plate(shape);
    need(q >= 1 && q <= 9);
    need(heardTones.size() < p.free().size(), NOT);
    List<Plate> all = fitting(p, q, new ArrayList<>());
    need(!all.isEmpty(), NOT);
    int best = -1, least = Integer.MAX_VALUE;
    for (int i = heardTones.size(); i < p.free().size(); i++) {
      Map<Integer, Integer> groups = new HashMap<>();
      for (Plate w : all) groups.merge(shutOf(w, i, q), 1, Integer::sum);
      int most = 0;
      for (int g : groups.values()) most = Math.max(most, g);
      if (most < least) {
        least = most;
        best = i;
      }
    }
    return best;
  }

  int unhear() {
    int n = heardTones.size();
    heardTones.clear();
    return n;
  }

  // ---- 29 to 38

  int damp(int v) {
    need(v >= 0 && v <= 500);
    int was = damp;
    damp = v;
    return was;
  }

  int ear(int ear, int corner) {
    if (ear < 0 || ear > 3 || corner < -1 || corner > 5) return VOID;
    int was = ears[ear];
    ears[ear] = corner;
    return was;
  }

  private int strike(Plate p, List<int[]> pushes, int t) {
    int n = p.corners.size();
    long[] x = new long[n];
    long[] u = new long[n];
    long most = 0;
    steps.clear();
    for (int e = 0; e < 4; e++) earsThen[e] = ears[e] < n ? ears[e] : -1;
    for (int s = 0; s < t; s++) {
      for (int[] b : pushes) if (b[2] == s && b[0] < n && p.corners.get(b[0])[3] == 0) u[b[0]] += b[1] * 64L;
      long[] was = x.clone();
      for (int i = 0; i < n; i++) {
        if (p.corners.get(i)[3] != 0) continue;
        long f = p.corners.get(i)[1] * was[i];
        for (int j = 0; j < n; j++) f += p.counts(i, j) * (was[i] - was[j]);
        u[i] -= f / p.mass(i) / 8;
        u[i] -= u[i] * damp / 1000;
        x[i] += u[i] / 8;
        most = Math.max(most, Math.abs(x[i]));
      }
      int[] kept = new int[4];
      for (int e = 0; e < 4; e++) if (earsThen[e] >= 0) kept[e] = (int) x[earsThen[e]];
      steps.add(kept);
    }
    return (int) most;
  }

  int blow(int shape, int corner, int v, int t) {
    Plate p = plate(shape);
    corner(p, corner);
    need(v >= -99 && v <= 99 && t >= 1 && t <= 200);
    need(p.corners.get(corner)[3] == 0, STATE);
    return strike(p, List.of(new int[] {corner, v, 0}), t);
  }

  int roll(int corner, int v, int when) {
    need(corner >= 0 && corner <= 5 && v >= -99 && v <= 99 && when >= 0 && when <= 99);
    need(rolls.size() < 6, FULL);
    rolls.add(new int[] {corner, v, when});
    return rolls.size();
  }

  int rolled(int shape, int t) {
    Plate p = plate(shape);
    need(t >= 1 && t <= 200);
    need(!rolls.isEmpty(), STATE);
    int most = strike(p, rolls, t);
    rolls.clear();
    return most;
  }

  int heard(int ear, int k) {
    if (ear < 0 || ear > 3 || k < 1 || k > steps.size() || earsThen[ear] < 0) return VOID;
    return steps.get(k - 1)[ear];
  }

  int loud(int ear, int what) {
    need(ear >= 0 && ear <= 3 && what >= -1);
    need(!steps.isEmpty() && earsThen[ear] >= 0, STATE);
    int most = 0;
    for (int[] s : steps) most = Math.max(most, Math.abs(s[ear]));
    if (what == -1) return most;
    for (int first = 1; first <= steps.size(); first++) {
      boolean quiet = true;
      for (int k = first; k <= steps.size(); k++) quiet &= Math.abs(steps.get(k - 1)[ear]) <= what;
      if (quiet) return first;
    }
    return steps.size();
  }

  private void shelf(int shelf) {
    need(shelf >= 0 && shelf <= 5);
  }

  private Row rowOn(int shelf) {
    need(shelves[shelf] != null, -11);
    need(shelves[shelf] instanceof Row, -12);
    return (Row) shelves[shelf];
  }

  private Row numbersOn(int shelf) {
    Row r = rowOn(shelf);
    need(r.sort <= 2, -12);
    return r;
  }

  private static long greatest(int sort) {
    return sort == 0 ? Byte.MAX_VALUE : sort == 1 ? Short.MAX_VALUE : Integer.MAX_VALUE;
  }

  int write(int ear, int shelf, int i, int n) {
    need(ear >= 0 && ear <= 3 && n >= 1 && n <= 60);
    shelf(shelf);
    need(!steps.isEmpty() && earsThen[ear] >= 0, STATE);
    Row r = numbersOn(shelf);
    need(i >= 0 && i < r.at.length, -13);
    int k = 0;
    while (k < n && i + k < r.at.length && k < steps.size()) {
      long v = steps.get(k)[ear];
      if (v > greatest(r.sort)) v = greatest(r.sort);
      if (v < -greatest(r.sort)) v = -greatest(r.sort);
      r.at[i + k] = v;
      k++;
    }
    return k;
  }

  private static long loudnessIn(Row r, int n) {
    long c = 0, s = 0;
    for (int k = 0; k < r.at.length; k++) {
      long v = r.at[k] == -greatest(r.sort) - 1 ? 0 : r.at[k];
      c += v * Integer.signum(n - 2 * (k % n));
      s += v * Integer.signum(n - 2 * ((k + n / 4) % n));
    }
    c = Math.abs(c);
    s = Math.abs(s);
    return c > s ? c + s / 2 : s + c / 2;
  }

  int loudness(int shelf, int period) {
    shelf(shelf);
    need(period >= 2 && period <= 60);
    return (int) Math.min(1999999999, loudnessIn(numbersOn(shelf), period));
  }

  int strongest(int shelf) {
    shelf(shelf);
    Row r = numbersOn(shelf);
    need(r.at.length > 0, NOT);
    int best = 2;
    for (int n = 3; n <= 60; n++) {
      if (loudnessIn(r, n) / r.at.length > loudnessIn(r, best) / r.at.length) best = n;
    }
    return best;
  }

  // ---- 39 to 43

  int ratio(int a, int b) {
    need(a >= 1 && a <= 9 && b >= 1 && b <= 9);
    need(ratios.size() < 6, FULL);
    ratios.add(new int[] {a, b});
    return ratios.size();
  }

  private int agreeing(List<Integer> tones, int d) {
    int n = 0;
    for (int k = 0; k + 1 < tones.size(); k++) {
      if (Math.abs(tones.get(k) * ratios.get(k)[1] - tones.get(k + 1) * ratios.get(k)[0]) <= d) n++;
    }
    return n;
  }

  int agree(int shapes, int n, int d, int what) {
    need(n >= 2 && n <= 7 && shapes >= 0 && shapes < Math.pow(16, n) && d >= 0 && d <= 9999 && (what == 0 || what == 1));
    List<Integer> tones = new ArrayList<>();
    for (int k = 0, rest = shapes; k < n; k++, rest /= 16) {
      Plate p = plate(rest % 16);
      need(!p.free().isEmpty());
      tones.add(shutOf(p, 0, 9));
    }
    need(ratios.size() >= n - 1, STATE);
    if (what == 0) return agreeing(tones, d);
    for (int out = 0; out < n; out++) {
      for (int bits = 0; bits < 1 << n; bits++) {
        if (Integer.bitCount(bits) != out) continue;
        List<Integer> left = new ArrayList<>();
        for (int k = 0; k < n; k++) if ((bits >> k & 1) == 0) left.add(tones.get(k));
        if (agreeing(left, d) == left.size() - 1) return bits;
      }
    }
    throw new IllegalStateException();
  }

  int unratio() {
    int n = ratios.size();
    ratios.clear();
    return n;
  }

  int join(int shape, int other, int ab, int v) {
    Plate s = plate(shape);
    Plate o = plate(other);
    need(ab >= 0);
    corner(s, ab / 10);
    corner(o, ab % 10);
    need(v >= 1 && v <= 9);
    int n = s.corners.size();
    need(n + o.corners.size() <= 6);
    need(plates.size() < 12 && parts.size() + s.pieces.size() + o.pieces.size() + 1 <= 200, FULL);
    Plate j = s.copy();
    Plate p = o.copy();
    j.corners.addAll(p.corners);
    for (Piece q : p.pieces) {
      q.a += n;
      q.b += n;
    }
    j.pieces.addAll(p.pieces);
    Piece link = new Piece();
    link.a = ab / 10;
    link.b = n + ab % 10;
    link.stiff = v;
    j.pieces.add(link);
    j.one = s;
    j.other = o;
    return add(j);
  }

  int law(int shape, int mark) {
    Plate p = plate(shape);
    mark(mark);
    need(p.one != null, NOT);
    int both = changes(minors(p.one, mark / 10, mark % 10)) + changes(minors(p.other, mark / 10, mark % 10));
    int joined = changes(minors(p, mark / 10, mark % 10));
    return joined == both || joined == both - 1 ? 1 : 0;
  }

  // ---- 44 to 46

  int undo() {
    need(!done.isEmpty(), STATE);
    Done d = done.remove(done.size() - 1);
    d.plate.become(d.before);
    undone.add(d);
    return done.size();
  }

  int redo() {
    need(!undone.isEmpty(), STATE);
    Done d = undone.remove(undone.size() - 1);
    d.plate.become(d.after);
    done.add(d);
    return undone.size();
  }

  int digest() {
    List<Integer> all = new ArrayList<>();
    for (Plate p : plates) {
      for (int[] c : p.corners) for (int v : c) all.add(v);
      for (Piece q : p.pieces) all.addAll(List.of(q.a, q.b, q.stiff, q.crack));
    }
    int h = 7;
    for (int v : all) h = 31 * h + v;
    return h;
  }

  // ---- 47 to 49: the KINDS as classes

  private static class Kind {
    final List<Integer> ran;
    final int n, s;

    Kind(List<Integer> ran, int n, int s) {
      this.ran = ran;
      this.n = n;
      this.s = s;
    }

    int stiffens(int x) { ran.add(1); return x + s; }
    int weighs(int x) { ran.add(10); return stiffens(x) * 2; }
    int sounds(int x) { ran.add(11); return x ^ n; }
    int tells(int x) { ran.add(2); return weighs(x) + sounds(1); }
  }

  private static class KPiece extends Kind {
    KPiece(List<Integer> ran, int n, int s) { super(ran, n, s); }
    @Override int stiffens(int x) { ran.add(20); return super.stiffens(x) - 1; }
  }

  private static final class KHeld extends KPiece {
    KHeld(List<Integer> ran, int n, int s) { super(ran, n, s); }
    @Override int sounds(int x) { ran.add(30); return super.sounds(x) * 5; }
    @Override int weighs(int x) { ran.add(31); return super.weighs(x) + stiffens(2); }
  }

  private static final class KWeighted extends Kind {
    KWeighted(List<Integer> ran, int n, int s) { super(ran, n, s); }
    @Override int weighs(int x) { ran.add(40); return -super.weighs(x); }
  }

  private static class KCracked extends KPiece {
    KCracked(List<Integer> ran, int n, int s) { super(ran, n, s); }
    @Override int stiffens(int x) { ran.add(50); return super.stiffens(x) ^ 3; }
    @Override int tells(int x) { ran.add(51); return super.tells(x + 1); }
  }

  private static final class KBent extends KCracked {
    KBent(List<Integer> ran, int n, int s) { super(ran, n, s); }
    @Override int sounds(int x) { ran.add(60); return super.sounds(x) + weighs(1); }
    @Override int tells(int x) { ran.add(61); return super.tells(x) * 2; }
  }

  private Kind kindOf(Part p) {
    int s = 0;
    if (p.of != null) for (Piece q : p.of.pieces) if (q.body == p.number) s = q.stiff;
    switch (p.kind) {
      case 0: return new Kind(ran, p.number, s);
      case 1: return new KPiece(ran, p.number, s);
      case 2: return new KHeld(ran, p.number, s);
      case 3: return new KWeighted(ran, p.number, s);
      case 4: return new KCracked(ran, p.number, s);
      default: return new KBent(ran, p.number, s);
    }
  }

  int body(int kind) {
    need(kind >= 0 && kind <= 5);
    need(parts.size() < 200, FULL);
    Part p = new Part();
    p.number = parts.size();
    p.kind = kind;
    parts.add(p);
    return p.number;
  }

  int act(int body, int act, int x) {
    ran.clear();
    if (body < 0 || body >= parts.size()) return 0;
    switch (act) {
      case 0: return kindOf(parts.get(body)).stiffens(x);
      case 1: return kindOf(parts.get(body)).weighs(x);
      case 2: return kindOf(parts.get(body)).sounds(x);
      case 3: return kindOf(parts.get(body)).tells(x);
      default: return 0;
    }
  }

  int trace(int i) {
    return i >= 0 && i < ran.size() && i < 24 ? ran.get(i) : BAD;
  }

  // ---- 50 to 56

  int keep(int shelf, int body) {
    shelf(shelf);
    need(body >= -1 && body < parts.size());
    shelves[shelf] = body == -1 ? null : parts.get(body);
    return 1;
  }

  int row(int shelf, int sort, int n) {
    shelf(shelf);
    need(sort >= 0 && sort <= 4 && n <= 60);
    need(n >= 0, -14);
    Row r = new Row();
    r.sort = sort;
    r.at = new long[n];
    shelves[shelf] = r;
    return 1;
  }

  int place(int shelf, int i, long v) {
    shelf(shelf);
    Row r = rowOn(shelf);
    need(i >= 0 && i < r.at.length, -13);
    r.at[i] = r.sort == 0 ? (byte) v : r.sort == 1 ? (short) v : r.sort == 2 ? (int) v : r.sort == 3 ? v : v == 0 ? 0 : 1;
    return 1;
  }

  long element(int shelf, int i) {
    try {
      shelf(shelf);
      Row r = rowOn(shelf);
      need(i >= 0 && i < r.at.length);
      return r.at[i];
    } catch (Refused r) {
      return Long.MIN_VALUE;
    }
  }

  int shift(int shelf, int i, int other, int j, int n) {
    shelf(shelf);
    shelf(other);
    need(shelves[shelf] != null && shelves[other] != null, -11);
    Row r = rowOn(shelf);
    Row o = rowOn(other);
    need(r.sort == o.sort, -12);
    need(n >= 0 && i >= 0 && j >= 0 && (long) i + n <= r.at.length && (long) j + n <= o.at.length, -13);
    long[] were = r.at.clone();
    for (int k = 0; k < n; k++) o.at[j + k] = were[i + k];
    return n;
  }

  int taken(int shelf, int k) {
    shelf(shelf);
    need(k >= 0 && k <= 5);
    need(shelves[shelf] != null, -11);
    need(shelves[shelf] instanceof Part, -12);
    Part p = (Part) shelves[shelf];
    Class<?>[] kinds = {Kind.class, KPiece.class, KHeld.class, KWeighted.class, KCracked.class, KBent.class};
    need(kinds[k].isAssignableFrom(kinds[p.kind]), -12);
    return p.kind;
  }

  int count(int what) {
    int[] all = {plates.size(), parts.size(), tape.length(), done.size(), ran.size(), steps.size()};
    return what >= 0 && what < all.length ? all[what] : BAD;
  }

  /** A call by name, with refusals as answers. */
  static long answer(java.lang.reflect.Method m, SlowPlates on, Object[] args) throws ReflectiveOperationException {
    try {
      return ((Number) m.invoke(on, args)).longValue();
    } catch (java.lang.reflect.InvocationTargetException e) {
      if (e.getCause() instanceof Refused) return ((Refused) e.getCause()).code;
      throw e;
    }
  }
}
