import java.lang.reflect.Constructor;
import java.lang.reflect.Field;
import java.lang.reflect.Method;
import java.lang.reflect.Modifier;
import java.util.Set;
import java.util.TreeSet;

/** The public face is the document's, no more and no less; nothing else is visible (rule 1). */
public final class FaceTest {
  private static final Due DUE = new Due("FaceTest");

  private static final String[] FACE = {
    "int feed(int,int)", "int shape()", "int of(int,int)", "int piece(int,int,int,int)", "int put(int,int,int,int)",
    "int crack(int,int,int,int)", "int stroke(int,int,int)", "int below(int,int,int)", "long sums(int,int,int)",
    "int shut(int,int,int)", "int still(int,int,int)", "int split(int,int,int,int)", "int bounds(int,int,int,int,int)",
    "int led(int,int,int,int)", "int turnsOf(int)", "int orbit(int,int)", "int table(int,int)", "int alike(int,int,int)",
    "int plan(int,int,int,int)", "int wish(int,int,int)", "int moved(int,int,int)", "int tune(int)", "int forget()",
    "int hear(int)", "int fits(int,int,int)", "int next(int,int)", "int unhear()", "int damp(int)", "int ear(int,int)",
    "int blow(int,int,int,int)", "int roll(int,int,int)", "int rolled(int,int)", "int heard(int,int)", "int loud(int,int)",
    "int write(int,int,int,int)", "int loudness(int,int)", "int strongest(int)", "int ratio(int,int)",
    "int agree(int,int,int,int)", "int unratio()", "int join(int,int,int,int)", "int law(int,int)", "int undo()",
    "int redo()", "int digest()", "int body(int)", "int act(int,int,int)", "int trace(int)", "int keep(int,int)",
    "int row(int,int,int)", "int place(int,int,long)", "long element(int,int)", "int shift(int,int,int,int,int)",
    "int taken(int,int)", "int count(int)",
  };

  private static String told(Method m) {
    StringBuilder s = new StringBuilder(m.getReturnType() + " " + m.getName() + "(");
    for (Class<?> p : m.getParameterTypes()) s.append(s.charAt(s.length() - 1) == '(' ? "" : ",").append(p);
    return s.append(')').toString();
  }

  public static void main(String[] args) throws ReflectiveOperationException {
    Set<String> due = new TreeSet<>(Set.of(FACE));
    Set<String> names = new TreeSet<>();
    for (Method m : PlatesSing.class.getDeclaredMethods()) {
      if (Modifier.isPublic(m.getModifiers())) {
        names.add(m.getName());
        DUE.is("public " + told(m), due.remove(told(m)) && !Modifier.isStatic(m.getModifiers()) ? 1 : 0, 1);
      }
    }
    DUE.is("what lacks: " + due, due.size(), 0);
    for (Method m : PlatesSing.class.getDeclaredMethods()) {
      if (Modifier.isPublic(m.getModifiers())) continue;
      DUE.is("rule 1: " + m, Modifier.isPrivate(m.getModifiers()) && !names.contains(m.getName()) ? 1 : 0, 1);
    }
    Set<String> constants = new TreeSet<>(Set.of("BAD", "NOT", "FULL", "STATE", "VOID"));
    for (Field f : PlatesSing.class.getDeclaredFields()) {
      int m = f.getModifiers();
      boolean open = Modifier.isPublic(m) && Modifier.isStatic(m) && Modifier.isFinal(m) && constants.remove(f.getName());
      DUE.is("rule 1: " + f, open || Modifier.isPrivate(m) ? 1 : 0, 1);
    }
    DUE.is("constants that lack: " + constants, constants.size(), 0);
    Constructor<?>[] made = PlatesSing.class.getDeclaredConstructors();
    DUE.is("constructors", made.length, 1);
    DUE.is("the constructor is public", Modifier.isPublic(made[0].getModifiers()) ? made[0].getParameterCount() : -1, 0);
    DUE.is("the class is final", Modifier.isFinal(PlatesSing.class.getModifiers()) ? 1 : 0, 1);
    DUE.is("it stands under Object alone", PlatesSing.class.getSuperclass() == Object.class ? 1 : 0, 1);
    Class<?>[] inside = PlatesSing.class.getDeclaredClasses();
    DUE.is("rule 11: at most twelve classes", inside.length + 1 <= 12 ? 1 : 0, 1);
    for (Class<?> c : inside) {
      DUE.is("rule 2: " + c, Modifier.isStatic(c.getModifiers()) && !Modifier.isPublic(c.getModifiers()) ? 1 : 0, 1);
      int fields = 0;
      for (Field f : c.getDeclaredFields()) if (!Modifier.isStatic(f.getModifiers())) fields++;
      DUE.is("rule 11: fields of " + c, fields <= 20 ? 1 : 0, 1);
      for (Method m : c.getDeclaredMethods()) {
        DUE.is("rule 1: " + m, names.contains(m.getName()) ? 0 : 1, 1);
        DUE.is("rule 11: " + m, m.getParameterCount() <= 7 ? 1 : 0, 1);
      }
    }
    DUE.is("BAD", PlatesSing.BAD, -1);
    DUE.is("NOT", PlatesSing.NOT, -2);
    DUE.is("FULL", PlatesSing.FULL, -3);
    DUE.is("STATE", PlatesSing.STATE, -4);
    DUE.is("VOID", PlatesSing.VOID, -2000000000);
    DUE.finish();
  }
}
