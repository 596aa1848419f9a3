import java.lang.reflect.Constructor;
import java.lang.reflect.Field;
import java.lang.reflect.Method;
import java.lang.reflect.Modifier;
import java.nio.file.Files;
import java.nio.file.Path;
import java.util.ArrayList;
import java.util.List;
import java.util.Set;
import java.util.TreeSet;

/** The face is that of ../shared/DOC.md, no more and no less, and of the class inside nothing is open. */
public final class FaceTest {
  private static Set<String> documented() throws Exception {
    Set<String> lines = new TreeSet<>();
    boolean isFace = false;
    for (String line : Files.readAllLines(Path.of("../shared/DOC.md"))) {
      if (line.startsWith("public final class Greentrunk")) isFace = true;
      if (line.equals("}")) isFace = false;
      if (isFace && line.startsWith("    public ")) lines.add(line.trim());
    }
    return lines;
  }

  private static String face(Method m) {
    StringBuilder s = new StringBuilder();
    s.append(Modifier.toString(m.getModifiers())).append(' ').append(m.getReturnType().getName()).append(' ');
    s.append(m.getName()).append('(');
    for (int i = 0; i < m.getParameterCount(); i++) {
      s.append(i > 0 ? ", " : "").append(m.getParameterTypes()[i].getName());
    }
    s.append(')');
    String by = " throws ";
    for (Class<?> e : m.getExceptionTypes()) {
      s.append(by).append(e.getSimpleName());
      by = ", ";
    }
    return s.append(';').toString();
  }

  private static void methods() throws Exception {
    Set<String> due = new TreeSet<>(), names = new TreeSet<>(), found = new TreeSet<>();
    for (String line : documented()) {
      if (!line.contains("(") || line.contains("Greentrunk()")) continue;
      String bare = line.replaceAll("(int|boolean) \\w+(?=[,)])", "$1");
      due.add(bare);
      names.add(bare.replaceAll("\\(.*", "").replaceAll(".* ", ""));
    }
    Due.eq("methods of the document", due.size(), 44);
    for (Method m : Greentrunk.class.getDeclaredMethods()) {
      if (Modifier.isPublic(m.getModifiers())) {
        found.add(face(m));
      } else {
        Due.is(m + " is private", Modifier.isPrivate(m.getModifiers()));
        Due.not(m + " has the name of a public one", names.contains(m.getName()));
      }
    }
    for (Class<?> c : Greentrunk.class.getDeclaredClasses()) {
      for (Method m : c.getDeclaredMethods()) {
        Due.not(m + " has the name of a public one", names.contains(m.getName()));
      }
    }
    for (String line : due) Due.is("there is " + line, found.contains(line));
    for (String line : found) Due.is("the document has " + line, due.contains(line));
  }

  private static void constants() throws Exception {
    List<String> due = new ArrayList<>();
    for (String line : documented()) {
      if (!line.contains(" static final ")) continue;
      for (String one : line.replaceAll(".* int |;", "").split(", ")) due.add(one);
    }
    Due.eq("constants of the document", due.size(), 14);
    int open = 0;
    for (Field f : Greentrunk.class.getDeclaredFields()) {
      if (Modifier.isStatic(f.getModifiers())) Due.is(f + " is final", Modifier.isFinal(f.getModifiers()));
      if (!Modifier.isPublic(f.getModifiers())) {
        Due.is(f + " is private", Modifier.isPrivate(f.getModifiers()));
        continue;
      }
      open++;
      Due.is("the document has " + f, due.contains(f.getName() + " = " + f.getInt(null)));
    }
    Due.eq("public constants", open, 14);
  }

  private static void others() {
    Due.is("the class is public and final", Modifier.toString(Greentrunk.class.getModifiers()).equals("public final"));
    Constructor<?>[] all = Greentrunk.class.getDeclaredConstructors();
    Due.eq("constructors", all.length, 1);
    Due.is("it is public", Modifier.isPublic(all[0].getModifiers()));
    Due.eq("it takes nothing", all[0].getParameterCount(), 0);
    for (Class<?> c : Greentrunk.class.getDeclaredClasses()) {
      Due.is(c + " is not open", (c.getModifiers() & (Modifier.PUBLIC | Modifier.PROTECTED)) == 0);
      Due.is(c + " is static", Modifier.isStatic(c.getModifiers()));
    }
  }

  public static void main(String[] args) throws Exception {
    methods();
    constants();
    others();
    Due.end("FaceTest");
  }
}
