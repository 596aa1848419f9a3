import java.nio.file.Files;
import java.nio.file.Path;
import java.util.ArrayList;
import java.util.List;
import java.util.regex.Matcher;
import java.util.regex.Pattern;

/** What a look at the text tells of ../shared/LANGUAGE.md: words that may not stand there, and sizes. */
public final class LanguageTest {
  private static final String[] NEVER = {
    "\\bimport\\b", "\\bpackage\\b", "->", "::", "\\btry\\b", "\\bcatch\\b", "\\bfinally\\b", "\\bsynchronized\\b",
    "\\bassert\\b", "\\bnative\\b", "\\bThread\\b", "\\bSystem\\.(?!arraycopy)", "\\bRandom\\b", "Exact\\(",
    "\\bhashCode\\b", "\\btoString\\b", "\\bequals\\b", "\\bvar\\b", "\\bdouble\\b", "\\bfloat\\b", "\\bObject\\b",
    "\\bvolatile\\b", "\\bMath\\.(?!min|max|abs|floor)", "static \\{", "while \\(true\\)", "for \\(;;\\)",
  };

  public static void main(String[] args) throws Exception {
    String text = Files.readString(Path.of("src/main/java/Greentrunk.java"));
    for (int i = 0; i < text.length(); i++) {
      if (text.charAt(i) > 126) Due.fail("sign " + (int) text.charAt(i));
    }
    String bare = text.replaceAll("(?s)/\\*.*?\\*/", "").replaceAll("//[^\n]*", "").replaceAll("\"[^\"\n]*\"", "\"\"");
    for (String never : NEVER) {
      Matcher m = Pattern.compile(never).matcher(bare);
      Due.not("there is " + never, m.find());
    }
    Due.eq("classes inside", count("(?m)^    private static final class ", bare), count("\\bclass ", bare) - 1);
    Due.is("some twelve classes", count("\\bclass ", bare) <= 12);
    methods(bare);
    fields(bare);
    Due.end("LanguageTest");
  }

  private static int count(String pattern, String text) {
    Matcher m = Pattern.compile(pattern).matcher(text);
    int n = 0;
    while (m.find()) n++;
    return n;
  }

  /** A method begins with a line that ends with ") {" or goes on by "throws", and ends with a brace below its first sign. */
  private static void methods(String text) {
    String[] lines = text.split("\n");
    for (int i = 0; i < lines.length; i++) {
      Matcher m = Pattern.compile("^( {4}| {8})(?! |return|if|for|while|else|throw)[\\w\\[\\]. ]+ ?\\w+\\((.*)$").matcher(lines[i]);
      if (!m.find() || lines[i].contains(";") || lines[i].contains("=")) continue;
      String end = m.group(1) + "}";
      int j = i;
      while (j < lines.length && !lines[j].equals(end)) j++;
      Due.is("60 lines at most: " + lines[i], j - i < 60);
      Due.is("7 parameters at most: " + lines[i], m.group(2).split(",").length <= 7);
    }
  }

  /** A field's line has an indent of 4 or 8 and ends with a semicolon, and no call begins it. */
  private static void fields(String text) {
    List<Integer> many = new ArrayList<>();
    int outer = 0;
    for (String line : text.split("\n")) {
      if (line.matches("    private static final class .*")) many.add(0);
      if (line.matches("    private (final )?[\\w\\[\\]]+ \\w+( = .*)?;")) outer++;
      if (line.matches("        (private )?(final )?(Row|int|long|boolean|int\\[\\]|long\\[\\]|Change|Check|Change\\[\\]|Check\\[\\]) \\w+( = .*)?;")
          && !many.isEmpty()) {
        many.set(many.size() - 1, many.get(many.size() - 1) + 1);
      }
    }
    Due.is("some twenty fields, there are " + outer, outer > 0 && outer <= 20);
    for (int fields : many) Due.is("some twenty fields, there are " + fields, fields > 0 && fields <= 20);
  }
}
