import java.io.IOException;
import java.nio.file.Files;
import java.nio.file.Path;
import java.util.regex.Matcher;
import java.util.regex.Pattern;

/** Rules of ../shared/LANGUAGE.md that a look at the text can see. */
public final class LanguageTest {
  private static final Due DUE = new Due("LanguageTest");

  private static void hasNo(String code, String rule, String pattern) {
    Matcher m = Pattern.compile(pattern).matcher(code);
    int found = 0;
    while (m.find()) {
      found++;
      System.out.println(rule + ": " + m.group());
    }
    DUE.is(rule, found, 0);
  }

  public static void main(String[] args) throws IOException {
    String text = Files.readString(Path.of("src/main/java/PlatesSing.java"));
    String code = text.replaceAll("(?s)/\\*.*?\\*/", " ").replaceAll("//[^\n]*", " ");
    hasNo(text, "4: signs 1 to 127", "[^\\x01-\\x7f]");
    hasNo(code, "6: words", "\\b(throw|throws|try|catch|finally|synchronized|assert|volatile|transient|native)\\b");
    hasNo(code, "6: own equals and the like", "\\b(hashCode|toString|getClass|equals)\\b");
    hasNo(code, "2: lambdas and references", "->|::");
    hasNo(code, "2: an anonymous class", "\\bnew\\s+\\w+\\s*\\([^;{}]*\\)\\s*\\{");
    hasNo(code, "3: doubles", "\\b(double|float)\\b|\\d\\.\\d");
    hasNo(code, "4: imports", "\\bimport\\s+(?!java\\.util\\.Arrays;)");
    hasNo(code, "4: Exact", "Exact\\b");
    hasNo(code, "4: the library", "\\b(?!(?:Arrays|Math|System|Integer|Blows|Net|Parts|Plan|Ratios|Shape|Shelves|Tape)\\.)"
        + "[A-Z]\\w*[a-z]\\w*\\.\\w");
    hasNo(code, "4: functions of Math", "\\bMath\\.(?!max\\(|min\\(|abs\\()");
    hasNo(code, "4: functions of Integer", "\\bInteger\\.(?!bitCount\\(|compare\\()");
    hasNo(code, "4: functions of Arrays", "\\bArrays\\.(?!fill\\()");
    hasNo(code, "4: functions of System", "\\bSystem\\.(?!arraycopy\\()");
    hasNo(code, "5: static state", "\\bstatic\\s+(?!final\\b|boolean\\b|int\\b|long\\b)|\\bstatic\\s+(int|long|boolean)(\\[\\])*\\s+\\w+\\s*[=;]");
    hasNo(code, "8, 9: loops without an end", "while\\s*\\(\\s*true|for\\s*\\([^;)]*;\\s*;");
    hasNo(code, "9: every loop here counts", "\\bwhile\\b");
    methodsAreShort(text);
    recursionIsPrivate(code);
    DUE.finish();
  }

  private static void methodsAreShort(String text) {
    String[] lines = text.split("\n");
    int start = -1;
    String end = "";
    for (int k = 0; k < lines.length; k++) {
      Matcher m = Pattern.compile("^(\\s+)[\\w\\[\\] ]+\\([^;]*\\) \\{$").matcher(lines[k]);
      boolean head = m.find() && !lines[k].matches("\\s*(if|for|switch|while|else).*");
      if (start < 0 && head) {
        start = k;
        end = m.group(1) + "}";
      } else if (start >= 0 && lines[k].equals(end)) {
        DUE.is("11: a method's lines from " + (start + 1), k - start + 1 <= 60 ? 1 : 0, 1);
        start = -1;
      }
    }
  }

  /** Rule 8 speaks of private methods that call themselves. */
  private static void recursionIsPrivate(String code) {
    Matcher m = Pattern.compile("(?m)^( +)([\\w\\[\\] ]+ (\\w+)\\([^;{}]*\\)) \\{$").matcher(code);
    while (m.find()) {
      if (m.group(2).matches("(if|for|switch|while|else)\\b.*")) continue;
      int end = code.indexOf("\n" + m.group(1) + "}", m.end());
      boolean callsItself = Pattern.compile("(?<![.\\w])" + m.group(3) + "\\(").matcher(code.substring(m.end(), end)).find();
      DUE.is("8: " + m.group(2), callsItself && !m.group(2).startsWith("private ") ? 1 : 0, 0);
    }
  }
}
