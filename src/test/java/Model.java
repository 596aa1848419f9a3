import java.util.ArrayList;
import java.util.Arrays;
import java.util.Collections;
import java.util.Comparator;
import java.util.HashMap;
import java.util.LinkedHashSet;
import java.util.List;
import java.util.Map;
import java.util.Set;
import java.util.TreeMap;
import java.util.TreeSet;

/**
 * The document once more, as plainly as can be and without a thought of speed: nothing is kept that can be
 * found again. ModelTest compares Greentrunk with it, call by call.
 */
final class Model {
  static final class Chg {
    int author, parent = -1, state, approvals, priority, queuedAs, commit = -1;
    boolean revert;
    int[] base;
    TreeMap<Integer, Integer> edits = new TreeMap<>();
    int[] tree() { return put(base); }
    int[] put(int[] onto) {
      int[] t = onto.clone();
      for (Map.Entry<Integer, Integer> e : edits.entrySet()) t[e.getKey()] = e.getValue();
      return t;
    }
    boolean fits(int[] t) {
      for (int f : edits.keySet()) if (t[f] != base[f]) return false;
      return true;
    }
    int team() { return author % 3; }
  }
  static final class Tst {
    int files, time, degree, flaked, told;
    boolean outside, quarantine;
    List<int[]> rules = new ArrayList<>();
    Map<String, Verdict> verdicts = new HashMap<>();
    boolean watches(int f) { return (files & 1 << f) != 0; }
  }
  static final class Verdict { int is, runs, failed; }
  static final class Run { int test, left; String contents; int[] tree; boolean tells = true; }
  static final class Mach { boolean there; Run run; int last = -1; }
  static final class Want { int test, team = -1, kind; int[] tree; }
  static final class Batch { List<Integer> in = new ArrayList<>(); int[] ahead, behind; }

  List<int[]> trunk = new ArrayList<>();
  List<Chg> all = new ArrayList<>();
  List<Tst> tests = new ArrayList<>();
  List<int[]> lines = new ArrayList<>();
  Mach[] machines = new Mach[6];
  int[] owner = new int[12], blame = new int[8], weight = {1, 1, 1}, use = new int[3];
  int clock, size = 1, depth = 1, fullFailed = -1, turns;
  boolean fullAsked;
  Chg begun;
  List<Integer> log = new ArrayList<>();
  List<List<Integer>> secrets = new ArrayList<>(Arrays.asList(null, null, null));

  Model() {
    trunk.add(new int[12]);
    Arrays.fill(owner, -1);
    for (int i = 0; i < 6; i++) machines[i] = new Mach();
    machines[0].there = true;
  }

  static void index(boolean ok) { if (!ok) throw new IndexOutOfBoundsException(); }
  static void argument(boolean ok) { if (!ok) throw new IllegalArgumentException(); }
  static void state(boolean ok) { if (!ok) throw new IllegalStateException(); }
  static boolean in(int x, int low, int high) { return low <= x && x <= high; }
  boolean isChange(int c) { return in(c, 0, all.size() - 1); }
  boolean isTest(int t) { return in(t, 0, tests.size() - 1); }
  boolean isCommit(int c) { return in(c, 0, trunk.size() - 1); }
  int[] top() { return trunk.get(trunk.size() - 1); }
  boolean draftOrQueued(int c) { return all.get(c).state == 0 || all.get(c).state == 1; }

  // ---- changes

  public boolean begin(int author, int parent) {
    index(in(author, 0, 7) && (parent == -1 || isChange(parent)));
    state(parent == -1 || draftOrQueued(parent));
    boolean was = begun != null;
    begun = new Chg();
    begun.author = author;
    begun.parent = parent;
    return was;
  }
  public int edit(int file, int content) {
    index(in(file, 0, 11));
    argument(in(content, 0, 9));
    state(begun != null);
    state(begun.edits.containsKey(file) || begun.edits.size() < 4);
    begun.edits.put(file, content);
    return begun.edits.size();
  }
  public int make() {
    state(begun != null);
    state(begun.edits.size() > 0 && all.size() < 60);
    state(begun.parent == -1 || draftOrQueued(begun.parent));
    int[] base = begun.parent == -1 ? top() : all.get(begun.parent).tree();
    for (int f : begun.edits.keySet()) state(begun.edits.get(f) != base[f]);
    begun.base = base.clone();
    all.add(begun);
    begun = null;
    return all.size() - 1;
  }
  public int rebase(int change) {
    index(isChange(change));
    Chg c = all.get(change);
    state(c.state == 0);
    boolean keeps = c.parent != -1 && draftOrQueued(c.parent);
    int[] base = keeps ? all.get(c.parent).tree() : top();
    int other = 0;
    for (int f : c.edits.keySet()) {
      state(c.edits.get(f) != base[f]);
      if (base[f] != c.base[f]) other++;
    }
    c.base = base.clone();
    if (!keeps) c.parent = -1;
    return other;
  }
  public int own(int file, int team) {
    index(in(file, 0, 11) && in(team, -1, 2));
    int was = owner[file];
    owner[file] = team;
    return was;
  }
  boolean approved(Chg c) {
    for (int f : c.edits.keySet()) {
      int o = owner[f];
      if (o != -1 && o != c.team() && (c.approvals & 1 << o) == 0) return false;
    }
    return true;
  }
  public boolean approve(int change, int team) {
    index(isChange(change) && in(team, 0, 2));
    all.get(change).approvals |= 1 << team;
    return approved(all.get(change));
  }
  public int queue(int change, int priority) {
    index(isChange(change));
    argument(in(priority, 0, 3));
    Chg c = all.get(change);
    state(c.state == 0 && approved(c));
    state(c.parent == -1 || all.get(c.parent).state == 1 || all.get(c.parent).state == 2);
    c.state = 1;
    c.priority = priority;
    c.queuedAs = turns++;
    return order().indexOf(change);
  }
  public int drop(int change) {
    index(isChange(change));
    state(all.get(change).state == 1);
    int before = order().size();
    leave(change, 5);
    return before - order().size();
  }
  void leave(int change, int state) {
    all.get(change).state = state;
    for (int i = 0; i < all.size(); i++) {
      if (all.get(i).state == 1 && all.get(i).parent == change) leave(i, 5);
    }
  }
  public int revert(int commit, int author) {
    index(isCommit(commit) && in(author, 0, 7));
    argument(commit != 0);
    Chg c = new Chg();
    int[] was = trunk.get(commit - 1), is = trunk.get(commit);
    for (int f = 0; f < 12; f++) {
      if (was[f] != is[f]) {
        state(top()[f] == is[f]);
        c.edits.put(f, was[f]);
      }
    }
    state(all.size() < 60);
    c.author = author;
    c.base = top().clone();
    c.revert = true;
    c.state = 1;
    c.queuedAs = turns++;
    all.add(c);
    return all.size() - 1;
  }

  // ---- tests, the pipeline

  public int test(int files, int time, int flaky) {
    argument(in(files, 1, 4095) && in(time, 1, 6) && in(flaky, 0, 9));
    state(tests.size() < 10);
    Tst t = new Tst();
    t.files = files;
    t.time = time;
    t.degree = flaky;
    tests.add(t);
    return tests.size() - 1;
  }
  void reopen(int test) {
    tests.get(test).verdicts.clear();
    tests.get(test).told = 0;
    for (Mach m : machines) if (m.run != null && m.run.test == test) m.run.tells = false;
  }
  public int breaks(int test, int file, int content, int other, int its) {
    index(isTest(test) && in(file, 0, 11) && in(other, 0, 11));
    Tst t = tests.get(test);
    argument(t.watches(file) && t.watches(other) && in(content, 0, 9) && in(its, 0, 9));
    state(t.rules.size() < 6);
    t.rules.add(new int[] {file, content, other, its});
    reopen(test);
    return t.rules.size();
  }
  public boolean outside(int test, boolean isBroken) {
    index(isTest(test));
    boolean was = tests.get(test).outside;
    tests.get(test).outside = isBroken;
    if (was != isBroken) reopen(test);
    return was;
  }
  public int line(int test, int condition, int what) {
    index(isTest(test));
    argument(in(condition, 0, 2));
    argument(condition != 0 || what == 0);
    argument(condition != 1 || in(what, 0, 11));
    argument(condition != 2 || in(what, 0, 2));
    state(lines.size() < 12);
    lines.add(new int[] {test, condition, what});
    return lines.size();
  }
  public boolean letBack(int test) {
    index(isTest(test));
    boolean was = tests.get(test).quarantine;
    tests.get(test).quarantine = false;
    tests.get(test).flaked = 0;
    return was;
  }
  TreeSet<Integer> required(Chg c) {
    TreeSet<Integer> r = new TreeSet<>();
    for (int t = 0; t < tests.size(); t++) {
      for (int f : c.edits.keySet()) if (tests.get(t).watches(f)) r.add(t);
    }
    for (int[] l : lines) {
      if (l[1] == 0 || l[1] == 1 && c.edits.containsKey(l[2]) || l[1] == 2 && c.team() == l[2]) r.add(l[0]);
    }
    return r;
  }
  TreeSet<Integer> required(List<Integer> changes) {
    TreeSet<Integer> r = new TreeSet<>();
    for (int c : changes) r.addAll(required(all.get(c)));
    return r;
  }

  // ---- verdicts

  String contents(int test, int[] tree) {
    StringBuilder s = new StringBuilder();
    for (int f = 0; f < 12; f++) if (tests.get(test).watches(f)) s.append(tree[f]).append(',');
    return s.toString();
  }
  Verdict known(int test, int[] tree) {
    return tests.get(test).verdicts.computeIfAbsent(contents(test, tree), k -> new Verdict());
  }
  int verdictOn(int test, int[] tree) { return known(test, tree).is; }
  boolean runFails(int test, int[] tree, int k) {
    Tst t = tests.get(test);
    if (t.outside) return true;
    for (int[] r : t.rules) if (tree[r[0]] == r[1] && tree[r[2]] == r[3]) return true;
    long c = test + 1;
    for (int f = 0; f < 12; f++) if (t.watches(f)) c = (c * 11 + (tree[f] + 1)) % 10007;
    return (c * 7919 + k * 104729L) % 1000003 % 10 < t.degree;
  }
  int allowed(int test) { return tests.get(test).quarantine ? 5 : 2; }
  void tell(int test, int[] tree) {
    Tst t = tests.get(test);
    Verdict v = known(test, tree);
    boolean fails = runFails(test, tree, v.runs);
    v.runs++;
    t.told++;
    if (fails) {
      v.failed++;
      if (v.failed >= allowed(test)) v.is = 2;
    } else {
      v.is = 1;
      if (v.failed > 0) {
        t.flaked++;
        if (t.flaked >= 2) t.quarantine = true;
      }
    }
  }
  int verdictOf(Set<Integer> set, int[] tree) {
    boolean allPassed = true;
    for (int t : set) {
      if (verdictOn(t, tree) == 2) return 2;
      if (verdictOn(t, tree) != 1) allPassed = false;
    }
    return allPassed ? 1 : 0;
  }

  // ---- the queue

  List<Integer> order() {
    List<Integer> left = new ArrayList<>(), taken = new ArrayList<>();
    for (int i = 0; i < all.size(); i++) if (all.get(i).state == 1) left.add(i);
    Comparator<Integer> first = Comparator.comparing((Integer i) -> !all.get(i).revert)
        .thenComparing(i -> -all.get(i).priority).thenComparing(i -> all.get(i).queuedAs);
    while (!left.isEmpty()) {
      List<Integer> may = new ArrayList<>(left);
      may.removeIf(i -> left.contains(all.get(i).parent));
      Integer next = Collections.min(may, first);
      taken.add(next);
      left.remove(next);
    }
    return taken;
  }
  List<Batch> formed() {
    List<Batch> made = new ArrayList<>();
    Set<Integer> in = new LinkedHashSet<>();
    int[] tree = top();
    for (int b = 0; b < depth; b++) {
      Batch batch = new Batch();
      batch.ahead = tree;
      for (int i : order()) {
        if (in.contains(i) || batch.in.size() == size) continue;
        Chg c = all.get(i);
        boolean stands = c.parent == -1 || all.get(c.parent).state == 2 || in.contains(c.parent);
        if (!stands || !c.fits(tree)) continue;
        tree = c.put(tree);
        batch.in.add(i);
        in.add(i);
      }
      if (batch.in.isEmpty()) break;
      batch.behind = tree;
      made.add(batch);
    }
    return made;
  }

  /** What the first batch comes to: of what good and bad beginnings, and which is next, or -1. */
  final class Bisect {
    Batch batch;
    int good, bad, next = -1;
    Bisect(Batch b) {
      batch = b;
      bad = b.in.size();
      while (bad - good > 1 && next == -1) {
        int k = middle();
        int v = verdictOf(req(k), tree(k));
        if (v == 0) next = k;
        if (v == 1) good = k;
        if (v == 2) bad = k;
      }
    }
    int weight(int from, int to) {
      int w = 0;
      for (int i = from; i < to; i++) w += 1 + blame[all.get(batch.in.get(i)).author];
      return w;
    }
    int middle() {
      for (int k = good; k < bad; k++) if (k > good && 2 * weight(good, k) >= weight(good, bad)) return k;
      return bad - 1;
    }
    Set<Integer> req(int k) { return required(batch.in.subList(0, k)); }
    int[] tree(int k) {
      int[] t = batch.ahead;
      for (int i : batch.in.subList(0, k)) t = all.get(i).put(t);
      return t;
    }
    Set<Integer> failed() {
      Set<Integer> f = new TreeSet<>(req(bad));
      f.removeIf(t -> verdictOn(t, tree(bad)) != 2);
      return f;
    }
    boolean blames() { return next == -1 && failed().stream().anyMatch(t -> verdictOn(t, tree(good)) == 1); }
    boolean broken() { return next == -1 && failed().stream().allMatch(t -> verdictOn(t, tree(good)) == 2); }
  }

  int verdictOfBatch(Batch b) { return verdictOf(required(b.in), b.behind); }

  boolean step() {
    List<Integer> order = order();
    if (order.isEmpty()) return false;
    if (!all.get(order.get(0)).fits(top())) {
      leave(order.get(0), 4);
      return true;
    }
    Batch b = formed().get(0);
    if (verdictOfBatch(b) == 1) {
      trunk.add(b.behind.clone());
      for (int i : b.in) {
        all.get(i).state = 2;
        all.get(i).commit = trunk.size() - 1;
      }
      return true;
    }
    if (verdictOfBatch(b) == 2) {
      Bisect s = new Bisect(b);
      if (s.blames()) {
        int red = b.in.get(s.bad - 1);
        blame[all.get(red).author]++;
        leave(red, 3);
        return true;
      }
    }
    return false;
  }

  // ---- machines

  public int batches(int newSize, int newDepth) {
    argument(in(newSize, 1, 8) && in(newDepth, 1, 4));
    int was = 10 * size + depth;
    size = newSize;
    depth = newDepth;
    return was;
  }
  public boolean come(int machine) {
    index(in(machine, 0, 5));
    if (machines[machine].there) return false;
    machines[machine] = new Mach();
    machines[machine].there = true;
    return true;
  }
  public boolean vanish(int machine) {
    index(in(machine, 0, 5));
    boolean ran = machines[machine].run != null;
    machines[machine] = new Mach();
    return ran;
  }
  public int weigh(int team, int to) {
    index(in(team, 0, 2));
    argument(in(to, 1, 10));
    int was = weight[team];
    weight[team] = to;
    return was;
  }
  public boolean fullRun() {
    if (fullAsked) return false;
    return fullAsked = true;
  }
  void want(List<Want> list, int test, int[] tree, int team, int kind) {
    if (verdictOn(test, tree) != 0) return;
    for (Mach m : machines) {
      if (m.run != null && m.run.tells && m.run.test == test && m.run.contents.equals(contents(test, tree))) return;
    }
    for (Want w : list) if (w.test == test && contents(test, w.tree).equals(contents(test, tree))) return;
    Want w = new Want();
    w.test = test;
    w.tree = tree;
    w.team = team;
    w.kind = kind;
    list.add(w);
  }
  List<Want> wanted() {
    List<Want> list = new ArrayList<>();
    List<Batch> formed = formed();
    boolean failed = !formed.isEmpty() && verdictOfBatch(formed.get(0)) == 2;
    if (failed) {
      Bisect s = new Bisect(formed.get(0));
      if (s.next != -1) for (int t : s.req(s.next)) want(list, t, s.tree(s.next), -1, 0);
      else for (int t : s.failed()) want(list, t, s.tree(s.good), -1, 0);
    } else {
      for (int b = 0; b < formed.size(); b++) {
        for (int t : required(formed.get(b).in)) {
          int team = -1;
          for (int i : formed.get(b).in) if (team == -1 && required(all.get(i)).contains(t)) team = all.get(i).team();
          want(list, t, formed.get(b).behind, team, b == 0 ? 0 : 1);
        }
      }
    }
    if (fullAsked) for (int t = 0; t < tests.size(); t++) want(list, t, top(), -1, 2);
    return list;
  }
  Want choose() {
    List<Want> list = wanted();
    for (Want w : list) if (w.kind == 0) return w;
    Want best = null;
    for (Want w : list) {
      if (w.kind != 1) continue;
      if (best == null) { best = w; continue; }
      int mine = use[w.team] * weight[best.team], others = use[best.team] * weight[w.team];
      if (mine < others || mine == others && w.team < best.team) best = w;
    }
    if (best != null) return best;
    return list.isEmpty() ? null : list.get(0);
  }
  public int tick(int ticks) {
    argument(in(ticks, 1, 30));
    int before = landed();
    for (int i = 0; i < ticks; i++) tickOnce();
    return landed() - before;
  }
  int landed() { return (int) all.stream().filter(c -> c.state == 2).count(); }
  void tickOnce() {
    clock++;
    for (Mach m : machines) if (m.run != null) m.run.left--;
    for (Mach m : machines) {
      if (m.run != null && m.run.left == 0) {
        if (m.run.tells) tell(m.run.test, m.run.tree);
        m.last = m.run.test;
        m.run = null;
      }
    }
    while (step()) { }
    if (fullAsked) {
      int open = 0, failed = 0;
      for (int t = 0; t < tests.size(); t++) {
        if (verdictOn(t, top()) == 0) open++;
        if (verdictOn(t, top()) == 2) failed++;
      }
      if (open == 0) {
        fullFailed = failed;
        fullAsked = false;
      }
    }
    for (Mach m : machines) {
      if (!m.there || m.run != null) continue;
      Want w = choose();
      if (w == null) continue;
      m.run = new Run();
      m.run.test = w.test;
      m.run.tree = w.tree;
      m.run.contents = contents(w.test, w.tree);
      int time = tests.get(w.test).time;
      m.run.left = m.last == w.test ? Math.max(1, time - 1) : time;
      if (w.team != -1) use[w.team] += m.run.left;
    }
  }

  // ---- what is asked

  public int clock() { return clock; }
  public int changes() { return all.size(); }
  public int state(int change) { index(isChange(change)); return all.get(change).state; }
  public int requires(int change) {
    index(isChange(change));
    int bits = 0;
    for (int t : required(all.get(change))) bits += 1 << t;
    return bits;
  }
  public int queued() { return order().size(); }
  public int queuedAt(int place) { index(in(place, 0, queued() - 1)); return order().get(place); }
  public int batchOf(int change) {
    index(isChange(change));
    List<Batch> f = formed();
    for (int b = 0; b < f.size(); b++) if (f.get(b).in.contains(change)) return b;
    return -1;
  }
  public boolean isBroken() {
    List<Batch> f = formed();
    return !f.isEmpty() && verdictOfBatch(f.get(0)) == 2 && new Bisect(f.get(0)).broken();
  }
  public boolean wouldLand(int change) {
    index(isChange(change));
    int[] tree = top();
    Set<Integer> would = new TreeSet<>();
    for (int i : order()) {
      Chg c = all.get(i);
      if (!c.fits(tree)) continue;
      if (c.parent != -1 && all.get(c.parent).state != 2 && !would.contains(c.parent)) continue;
      int[] there = c.put(tree);
      boolean passes = true;
      for (int t : required(c)) passes &= passesThere(t, there);
      if (!passes) continue;
      would.add(i);
      tree = there;
    }
    return would.contains(change);
  }
  boolean passesThere(int test, int[] tree) {
    Verdict v = known(test, tree);
    if (v.is != 0) return v.is == 1;
    int failed = v.failed, k = v.runs;
    while (true) {
      if (!runFails(test, tree, k)) return true;
      k++;
      failed++;
      if (failed >= allowed(test)) return false;
    }
  }
  public int commits() { return trunk.size(); }
  public int content(int commit, int file) {
    index(isCommit(commit) && in(file, 0, 11));
    return trunk.get(commit)[file];
  }
  public int landedBy(int change) { index(isChange(change)); return all.get(change).commit; }
  public int verdict(int test, int commit) {
    index(isTest(test) && isCommit(commit));
    return verdictOn(test, trunk.get(commit));
  }
  public int runs(int test) { index(isTest(test)); return tests.get(test).told; }
  public int flaked(int test) { index(isTest(test)); return tests.get(test).flaked; }
  public boolean isQuarantined(int test) { index(isTest(test)); return tests.get(test).quarantine; }
  public int blame(int author) { index(in(author, 0, 7)); return blame[author]; }
  public int running(int machine) {
    index(in(machine, 0, 5));
    return machines[machine].run == null ? -1 : machines[machine].run.test;
  }
  public int use(int team) { index(in(team, 0, 2)); return use[team]; }
  public int fullFailed() { return fullFailed; }

  // ---- logs

  static List<Integer> digits(int digits, int many) {
    argument(digits >= 0 && String.valueOf(digits).length() <= many);
    List<Integer> row = new ArrayList<>();
    for (char c : String.format("%0" + many + "d", digits).toCharArray()) row.add(c - '0');
    return row;
  }
  public int secret(int secret, int digits, int many) {
    index(in(secret, 0, 2));
    argument(in(many, 2, 6));
    secrets.set(secret, digits(digits, many));
    return (int) secrets.stream().filter(s -> s != null).count();
  }
  public int log(int digits, int many) {
    argument(in(many, 1, 6));
    List<Integer> piece = digits(digits, many);
    state(log.size() + many <= 200);
    log.addAll(piece);
    return shown();
  }
  public int shown() {
    for (int p = 0; p < log.size(); p++) {
      List<Integer> tail = log.subList(p, log.size());
      for (List<Integer> s : secrets) {
        if (s != null && tail.size() < s.size() && s.subList(0, tail.size()).equals(tail)) return p;
      }
    }
    return log.size();
  }
  public int logAt(int place) {
    index(in(place, 0, shown() - 1));
    for (List<Integer> s : secrets) {
      if (s == null) continue;
      for (int p = 0; p + s.size() <= log.size(); p++) {
        if (p <= place && place < p + s.size() && log.subList(p, p + s.size()).equals(s)) return 10;
      }
    }
    return log.get(place);
  }
}
