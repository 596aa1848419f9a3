import java.lang.reflect.InvocationTargetException;
import java.lang.reflect.Method;
import java.lang.reflect.Modifier;
import java.net.URI;
import java.net.URL;
import java.net.URLClassLoader;
import java.nio.file.Files;
import java.nio.file.Path;
import java.util.List;
import java.util.regex.Matcher;
import java.util.regex.Pattern;
import javax.tools.JavaCompiler;
import javax.tools.JavaFileObject;
import javax.tools.SimpleJavaFileObject;
import javax.tools.ToolProvider;

/** The program in README.md answers what README.md says, and each call of the face is named there. */
public final class ReadmeTest {
  private static final Pattern CALL = Pattern.compile("^(x\\..*);\\s*// -> ([\\w.]+).*$");

  private static final class Source extends SimpleJavaFileObject {
    private final String text;
    Source(String text) {
      super(URI.create("string:///Readme.java"), Kind.SOURCE);
      this.text = text;
    }
    @Override public CharSequence getCharContent(boolean ignoreEncodingErrors) { return text; }
  }

  /** A line with an answer becomes one that compares it; the others stay as they are. */
  private static String comparing(String line) {
    Matcher m = CALL.matcher(line);
    if (!m.matches()) return line + "\n";
    String call = m.group(1), due = m.group(2), name = "\"" + call + "\"";
    if (due.endsWith("Exception")) {
      return "Due.refuses(" + name + ", x, " + due + ".class, y -> y." + call.substring(2) + ");\n";
    }
    if (due.equals("true") || due.equals("false")) {
      return "Due." + (due.equals("true") ? "is(" : "not(") + name + ", " + call + ");\n";
    }
    return "Due.eq(" + name + ", " + call + ", " + due + ");\n";
  }

  private static String program(List<String> readme) {
    StringBuilder s = new StringBuilder("public final class Readme {\n  public static void run() {\n");
    boolean isProgram = false;
    for (String line : readme) {
      if (line.startsWith("```")) {
        isProgram = line.equals("```java");
      } else if (isProgram) {
        s.append(comparing(line));
      }
    }
    return s.append("Due.end(\"the program in README.md\");\n  }\n}\n").toString();
  }

  private static void run(String program) throws Exception {
    JavaCompiler compiler = ToolProvider.getSystemJavaCompiler();
    Path out = Files.createTempDirectory("readme");
    List<String> options = List.of("-d", out.toString(), "-cp", System.getProperty("java.class.path"));
    List<JavaFileObject> sources = List.of(new Source(program));
    boolean isCompiled = compiler.getTask(null, null, null, options, null, sources).call();
    Due.is("the program in README.md compiles", isCompiled);
    if (!isCompiled) return;
    // a loader for all of them: what is open in a package is so in one loader alone
    URL[] places = {out.toUri().toURL(), Greentrunk.class.getProtectionDomain().getCodeSource().getLocation()};
    try (URLClassLoader loader = new URLClassLoader(places, ClassLoader.getPlatformClassLoader())) {
      loader.loadClass("Readme").getMethod("run").invoke(null);
    } catch (InvocationTargetException e) {
      Due.fail("the program in README.md throws " + e.getCause());
    }
    for (Path made : Files.list(out).toList()) Files.delete(made);
    Files.delete(out);
  }

  public static void main(String[] args) throws Exception {
    List<String> readme = Files.readAllLines(Path.of("README.md"));
    String program = program(readme);
    Due.is("README.md tells answers", program.split("Due\\.").length > 30);
    run(program);
    String text = String.join("\n", readme);
    for (Method m : Greentrunk.class.getDeclaredMethods()) {
      if (Modifier.isPublic(m.getModifiers())) Due.is("README.md names " + m.getName(), text.contains("`" + m.getName() + "`"));
    }
    Due.is("README.md says how to run the tests", text.contains(".ci/run"));
    for (Path p : Files.list(Path.of("src/test/java")).sorted().toList()) {
      String name = p.getFileName().toString().replace(".java", "");
      Due.is("README.md names " + name, text.contains("`" + name + "`"));
    }
    Due.end("ReadmeTest");
  }
}
