import java.lang.reflect.InvocationTargetException;
import java.lang.reflect.Method;
import java.util.ArrayList;
import java.util.List;
import java.util.Map;
import java.util.Random;
import java.util.TreeMap;

/**
 * Random runs of calls on Greentrunk and on Model: the answers must be the same, exceptions by their very
 * class (the machine's own are of other classes), and so must be all that can be asked behind each call.
 * Arguments: the number of runs, and the first seed.
 */
public final class ModelTest {
  private static final Map<String, Method> OURS = methodsOf(Greentrunk.class), THEIRS = methodsOf(Model.class);
  private static final Map<String, Integer> ANSWERED = new TreeMap<>();

  private static Map<String, Method> methodsOf(Class<?> type) {
    Map<String, Method> found = new TreeMap<>();
    for (Method m : Greentrunk.class.getDeclaredMethods()) {
      if (!java.lang.reflect.Modifier.isPublic(m.getModifiers())) continue;
      try {
        Method same = type.getDeclaredMethod(m.getName(), m.getParameterTypes());
        same.setAccessible(true);
        found.put(m.getName(), same);
      } catch (NoSuchMethodException e) {
        throw new IllegalStateException("no " + m);
      }
    }
    return found;
  }

  private static String answer(Map<String, Method> methods, Object on, String name, Object... args) {
    try {
      return String.valueOf(methods.get(name).invoke(on, args));
    } catch (InvocationTargetException e) {
      return "throws " + e.getCause().getClass().getName();
    } catch (IllegalAccessException e) {
      throw new IllegalStateException(e);
    }
  }

  private final Greentrunk ours = new Greentrunk();
  private final Model theirs = new Model();
  private final Random random;
  private final List<String> calls = new ArrayList<>();
  private final int wild, files, contents, degree, fewTicks, patience;
  private String wrong;

  private ModelTest(long seed) {
    random = new Random(seed);
    wild = random.nextInt(3) == 0 ? 8 : 60;
    files = 2 + random.nextInt(11);
    contents = 2 + random.nextInt(9);
    degree = random.nextInt(11);
    fewTicks = 1 + random.nextInt(30);
    patience = 1 + random.nextInt(6);
  }

  private void same(boolean isCall, String name, Object... args) {
    if (wrong != null) return;
    String a = answer(OURS, ours, name, args), b = answer(THEIRS, theirs, name, args);
    String call = name + java.util.Arrays.toString(args) + " = " + b;
    if (isCall) {
      calls.add(call);
      ANSWERED.merge(name + (b.startsWith("throws") ? " " + b : ""), 1, Integer::sum);
    }
    if (!a.equals(b)) wrong = call + ", but Greentrunk " + a;
  }

  private void sameState() {
    for (String name : new String[] {"clock", "changes", "queued", "isBroken", "commits", "fullFailed", "shown"}) {
      same(false, name);
    }
    int changes = theirs.all.size(), commits = theirs.trunk.size();
    for (int i = 0; i < changes; i++) {
      for (String name : new String[] {"state", "requires", "batchOf", "landedBy"}) same(false, name, i);
    }
    for (int i = 0; i < theirs.queued(); i++) same(false, "queuedAt", i);
    for (int i = 0; i < changes; i++) if (theirs.state(i) == 1 || i % 7 == 0) same(false, "wouldLand", i);
    for (int i = 0; i < theirs.tests.size(); i++) {
      for (String name : new String[] {"runs", "flaked", "isQuarantined"}) same(false, name, i);
      for (int c = Math.max(0, commits - 3); c < commits; c++) same(false, "verdict", i, c);
    }
    for (int f = 0; f < 12; f++) same(false, "content", commits - 1, f);
    for (int i = 0; i < 8; i++) same(false, "blame", i);
    for (int i = 0; i < 6; i++) same(false, "running", i);
    for (int i = 0; i < 3; i++) same(false, "use", i);
    for (int i = 0; i < theirs.shown(); i++) same(false, "logAt", i);
  }

  /** Mostly from low on, high ones excluded; now and then anything. */
  private int some(int low, int high) {
    if (random.nextInt(wild) == 0) {
      int[] odd = {low - 1, high, high + 1, -2, Integer.MIN_VALUE, Integer.MAX_VALUE, 60, 1 << 31 | 3, 1 << 30};
      return odd[random.nextInt(odd.length)];
    }
    return high <= low ? low : low + random.nextInt(high - low);
  }
  private int change() {
    int n = theirs.all.size();
    return random.nextInt(3) > 0 ? some(Math.max(0, n - 6), n) : some(0, n);
  }
  private int test() { return some(0, theirs.tests.size()); }
  private int commit() {
    int n = theirs.trunk.size();
    return random.nextInt(3) > 0 ? some(Math.max(0, n - 3), n) : some(0, n);
  }
  private int fileOf(int test) {
    int f = some(0, files);
    for (int i = 0; i < 20 && theirs.isTest(test) && Model.in(f, 0, 11) && !theirs.tests.get(test).watches(f); i++) {
      f = random.nextInt(12);
    }
    return f;
  }

  private void makeOne() {
    int parent = random.nextInt(3) == 0 && !theirs.all.isEmpty() ? change() : -1;
    for (int i = 0; i < 4 && theirs.isChange(parent) && theirs.state(parent) > 1; i++) parent = change();
    same(true, "begin", some(0, 8), parent);
    int edits = 1 + random.nextInt(random.nextInt(3) == 0 ? 5 : 2);
    for (int i = 0; i < edits; i++) same(true, "edit", some(0, files), some(0, contents));
    same(true, "make");
    if (random.nextInt(4) > 0) {
      if (random.nextInt(3) == 0) same(true, "approve", theirs.all.size() - 1, some(0, 3));
      same(true, "queue", theirs.all.size() - 1, some(0, 4));
    }
  }

  private void call() {
    switch (random.nextInt(34)) {
      case 0: case 1: case 2: case 3: makeOne(); break;
      case 4: same(true, "queue", change(), some(0, 4)); break;
      case 5: same(true, "rebase", change()); break;
      case 6: if (random.nextInt(3) == 0) same(true, "own", some(0, 12), some(-1, 3)); break;
      case 7: same(true, "approve", change(), some(0, 3)); break;
      case 8: if (random.nextInt(2) == 0) same(true, "drop", change()); break;
      case 9: same(true, "revert", commit(), some(0, 8)); break;
      case 10: same(true, "test", 1 + random.nextInt((1 << files) - 1), some(1, 7), some(0, degree)); break;
      case 11: case 12: {
        int t = test();
        int file = fileOf(t), other = random.nextInt(2) == 0 ? file : fileOf(t), content = some(0, contents);
        int its = file == other && random.nextInt(8) > 0 ? content : some(0, contents);
        same(true, "breaks", t, file, content, other, its);
        break;
      }
      case 13: same(true, "outside", test(), random.nextInt(3) == 0); break;
      case 14: if (random.nextInt(2) == 0) same(true, "line", test(), some(0, 3), some(0, random.nextInt(3) * 3 + 1)); break;
      case 15: same(true, "letBack", test()); break;
      case 16: same(true, "batches", some(1, 9), some(1, 5)); break;
      case 17: case 18: same(true, "come", some(0, 6)); break;
      case 19: if (random.nextInt(2) == 0) same(true, "vanish", some(0, 6)); break;
      case 20: same(true, "weigh", some(0, 3), some(1, 11)); break;
      case 21: same(true, "fullRun"); break;
      case 22: same(true, "secret", some(0, 3), some(0, 200), some(2, 4)); break;
      case 23: same(true, "log", some(0, 200), some(1, 7)); break;
      case 24: same(true, "begin", some(0, 8), random.nextBoolean() ? -1 : change()); break;
      case 25: same(true, random.nextBoolean() ? "edit" : "content", some(0, 12), some(0, 10)); break;
      case 26: one(new String[] {"state", "requires", "batchOf", "wouldLand", "landedBy"}, change()); break;
      case 27: one(new String[] {"runs", "flaked", "isQuarantined"}, test()); break;
      case 28: one(new String[] {"queuedAt", "blame", "running", "use", "logAt"}, some(0, 9)); break;
      case 29: same(true, "verdict", test(), commit()); break;
      default: same(true, "tick", some(1, fewTicks + 1));
    }
  }
  private void one(String[] names, int argument) { same(true, names[random.nextInt(names.length)], argument); }

  private String run() {
    if (random.nextInt(4) > 0) {
      int size = random.nextInt(8) + 1;
      same(true, "batches", size, random.nextInt(4) + 1);
      for (int i = 0, many = random.nextInt(6); i < many; i++) same(true, "come", i);
      for (int i = 0, many = 1 + random.nextInt(5); i < many; i++) {
        same(true, "test", 1 + random.nextInt((1 << files) - 1), some(1, 7), some(0, degree));
      }
    }
    while (calls.size() < 480 && wrong == null) {
      call();
      sameState();
      if (random.nextInt(patience) == 0) {
        same(true, "tick", 1);
        sameState();
      }
    }
    return wrong;
  }

  /** As many changes, tests, verdicts and batches as there can be, most of which land. */
  private String crowd() {
    int tests = 10, half = 30;
    same(true, "batches", 8, 4);
    for (int m = 1; m < 6; m++) same(true, "come", m);
    for (int t = 0; t < tests; t++) same(true, "test", 4095 - random.nextInt(4), 1 + random.nextInt(3), random.nextInt(4));
    for (int c = 0; c < half; c++) makeOneThatLands(random.nextInt(5) == 0);
    sameState();
    same(true, "batches", random.nextInt(2) + 1, random.nextInt(4) + 1);
    for (int c = half; c < 60; c++) {
      makeOneThatLands(false);
      same(true, "tick", random.nextInt(12) + 1);
      if (random.nextInt(10) == 0) same(true, "fullRun");
      sameState();
    }
    for (int i = 0; i < 30 && wrong == null; i++) {
      same(true, "tick", 30);
      sameState();
    }
    for (int c = 0; c < theirs.trunk.size(); c++) {
      for (int t = 0; t < tests; t++) same(false, "verdict", t, c);
      for (int f = 0; f < 12; f++) same(false, "content", c, f);
    }
    return wrong;
  }

  private void makeOneThatLands(boolean onLast) {
    int last = theirs.all.size() - 1;
    boolean hasParent = onLast && last >= 0 && theirs.state(last) == 1;
    same(true, "begin", random.nextInt(8), hasParent ? last : -1);
    int file = random.nextInt(12);
    int[] tree = hasParent ? theirs.all.get(last).tree() : theirs.top();
    same(true, "edit", file, (tree[file] + 1 + random.nextInt(9)) % 10);
    same(true, "make");
    same(true, "queue", last + 1, random.nextInt(2));
  }

  public static void main(String[] args) {
    int many = args.length > 0 ? Integer.parseInt(args[0]) : 300;
    long first = args.length > 1 ? Long.parseLong(args[1]) : 1;
    int bad = 0;
    for (long seed = first; seed < first + many && bad < 3; seed++) {
      ModelTest run = new ModelTest(seed);
      String wrong = seed % 10 == 0 ? run.crowd() : run.run();
      if (wrong != null) {
        bad++;
        System.out.println("seed " + seed + ": " + wrong + "; behind");
        for (String call : run.calls) System.out.println("    " + call);
      }
    }
    System.out.println(many + " random runs against the model, " + bad + " with a wrong answer");
    if (args.length > 2) System.out.println(ANSWERED);
    if (bad > 0) System.exit(1);
  }
}
