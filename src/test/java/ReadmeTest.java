import java.io.IOException;
import java.lang.reflect.Method;
import java.lang.reflect.Modifier;
import java.nio.file.Files;
import java.nio.file.Path;
import java.util.regex.Matcher;
import java.util.regex.Pattern;

/** The rows of README.md are one run on one object: each call must answer what stands behind it. */
public final class ReadmeTest {
  private static final Due DUE = new Due("ReadmeTest");
  private static final Pattern ROW = Pattern.compile("^(tell|plates\\.\\w+)\\((.*)\\);\\s+// (-?\\d+).*$");

  private static Method named(String name) {
    for (Method m : PlatesSing.class.getDeclaredMethods()) {
      if (Modifier.isPublic(m.getModifiers()) && m.getName().equals(name)) return m;
    }
    throw new IllegalStateException("README.md tells of a call that is not there: " + name);
  }

  private static long answer(PlatesSing plates, String call, String arguments) throws ReflectiveOperationException {
    if (call.equals("tell")) {
      return Due.shape(plates, arguments.substring(arguments.indexOf('"') + 1, arguments.lastIndexOf('"')));
    }
    Method m = named(call.substring("plates.".length()));
    String[] told = arguments.isEmpty() ? new String[0] : arguments.split(", ");
    Object[] args = new Object[told.length];
    for (int k = 0; k < args.length; k++) {
      if (m.getParameterTypes()[k] == long.class) args[k] = Long.parseLong(told[k]);
      else args[k] = Integer.parseInt(told[k]);
    }
    return ((Number) m.invoke(plates, args)).longValue();
  }

  public static void main(String[] args) throws IOException, ReflectiveOperationException {
    PlatesSing plates = new PlatesSing();
    int rows = 0;
    for (String line : Files.readAllLines(Path.of("README.md"))) {
      boolean isCall = line.startsWith("plates.") || line.startsWith("tell(");
      if (!isCall) continue;
      rows++;
      Matcher m = ROW.matcher(line);
      boolean told = m.matches();
      DUE.is("an answer stands behind " + line, told ? 1 : 0, 1);
      if (told) DUE.is(line, answer(plates, m.group(1), m.group(2)), Long.parseLong(m.group(3)));
    }
    DUE.is("README.md has rows", rows >= 40 ? 1 : 0, 1);
    DUE.finish();
  }
}
