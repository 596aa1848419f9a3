/** The boundaries that promises 22 to 41 name: what is asked. */
public final class EdgeAskedTest {
  private static final int NONE = Edge.NONE;
  private static final int DRAFT = Edge.DRAFT, QUEUED = Edge.QUEUED, LANDED = Edge.LANDED;
  private static final int OPEN = Edge.OPEN, PASSED = Edge.PASSED, FAILED = Edge.FAILED;
  private static final int[] STATES = {DRAFT, QUEUED, LANDED, Edge.RED, Edge.CLASHED, Edge.DROPPED};

  private interface Of { long answer(Greentrunk x, int of); }

  /** The numbers of the first to the last are taken, none outside of these. */
  private static void range(String what, Edge.Start start, int last, Of of) {
    Greentrunk x = start.made();
    for (int i = 0; i <= last; i++) {
      try {
        of.answer(x, i);
        Due.checked++;
      } catch (RuntimeException e) {
        Due.fail(what + " of " + i + " throws " + e.getClass().getName());
      }
    }
    int[] outside = last < 0 ? new int[] {-1, 0, 1, Edge.LEAST, Edge.GREATEST} : Edge.outside(0, last);
    for (int i : outside) Edge.index(what + " of " + i, start, g -> of.answer(g, i));
  }

  private static Greentrunk landed(int many) {
    Greentrunk x = new Greentrunk();
    for (int i = 0; i < many; i++) {
      Due.queued(x, 0, 0, i % 12, 1 + i / 12);
      x.tick(1);
    }
    return x;
  }

  private static Greentrunk queued(int many) {
    Greentrunk x = Edge.drafts(many);
    for (int i = 0; i < many; i++) x.queue(i, 0);
    return x;
  }

  // ---- promises 22 and 23

  private static void counts() {
    Edge.test("Promise 22, clock", "0 at first, then each tick 1 more; refused ticks are none", () -> {
      Greentrunk x = new Greentrunk();
      Due.eq("at first", x.clock(), 0);
      int due = 0;
      for (int n : new int[] {1, 30, 2, 29}) {
        x.tick(n);
        due += n;
        Due.eq("clock", x.clock(), due);
      }
      Due.argument("31", x, g -> g.tick(31));
      Due.argument("0", x, g -> g.tick(0));
      Due.eq("clock", x.clock(), due);
    });
    Edge.test("Promise 23, changes", "0 to 60; what is begun is none, a revert is one", () -> {
      Due.eq("none", new Greentrunk().changes(), 0);
      for (int n : new int[] {1, 59, 60}) Due.eq("drafts", Edge.drafts(n).changes(), n);
      Greentrunk x = landed(1);
      x.begin(0, NONE);
      x.edit(0, 9);
      Due.eq("begun", x.changes(), 1);
      x.revert(1, 0);
      Due.eq("a revert", x.changes(), 2);
      x.make();
      Due.eq("made", x.changes(), 3);
      x.tick(1);
      Due.eq("they are for good", x.changes(), 3);
    });
  }

  // ---- promises 24, 25, 28, 30, 33: of a change

  private static void ofChanges() {
    Edge.test("Promise 24, state", "IndexOutOfBoundsException if there is no such change", () -> {
      for (int n : new int[] {0, 1, 3, 60}) range("state", () -> Edge.drafts(n), n - 1, (x, c) -> x.state(c));
    });
    Edge.test("Promise 24, state", "returns DRAFT to DROPPED, 0 to 5", () -> {
      for (int s : STATES) Due.eq(Edge.nameOf(s), Edge.changeIn(s).state(0), s);
      for (int i = 0; i < 6; i++) Due.eq("constant", STATES[i], i);
    });
    Edge.test("Terms, changes", "LANDED, RED, CLASHED or DROPPED for good", () -> {
      for (int s : STATES) {
        Greentrunk x = Edge.changeIn(s);
        for (int i = 0; i < 2; i++) {
          if (s > QUEUED) Due.state("queue", x, g -> g.queue(0, 0));
          if (s > QUEUED) Due.state("drop", x, g -> g.drop(0));
          if (s > QUEUED) Due.state("rebase", x, g -> g.rebase(0));
          Due.queued(x, 0, 0, 5, 5 + i);
          x.tick(30);
        }
        Due.eq(Edge.nameOf(s), x.state(0), s == QUEUED ? LANDED : s);
      }
    });
    Edge.test("Promise 25, requires", "IndexOutOfBoundsException if there is no such change", () -> {
      for (int n : new int[] {0, 1, 3, 60}) range("requires", () -> Edge.drafts(n), n - 1, (x, c) -> x.requires(c));
    });
    Edge.test("Promise 25, requires", "bit t for the test t: none, each of 10, all of 10; in every state", () -> {
      for (int s : STATES) {
        Greentrunk x = Edge.changeIn(s);
        int due = s == Edge.RED ? 1 : 0;
        Due.eq("at first", x.requires(0), due);
        for (int t = due; t < 10; t++) {
          x.test(t % 2 + 1, 1, 0);
          if (t % 2 == 0) due |= 1 << t;
          Due.eq(Edge.nameOf(s) + ", " + t + " tests", x.requires(0), due);
        }
        for (int t = 1; t < 10; t += 2) x.line(t, Edge.ALWAYS, 0);
        Due.eq("all", x.requires(0), 1023);
      }
    });
    Edge.test("Promise 28, batchOf", "IndexOutOfBoundsException if there is no such change", () -> {
      for (int n : new int[] {0, 1, 3, 60}) range("batchOf", () -> queued(n), n - 1, (x, c) -> x.batchOf(c));
    });
    Edge.test("Promise 28, batchOf", "0 for the first batch; NONE if it is in none", () -> {
      for (int s : STATES) Due.eq(Edge.nameOf(s), Edge.changeIn(s).batchOf(0), s == QUEUED ? 0 : NONE);
      Greentrunk x = queued(2);
      Due.eq("the first", x.batchOf(0), 0);
      Due.eq("of the same file", x.batchOf(1), NONE);
      Greentrunk y = new Greentrunk();
      for (int f = 0; f < 5; f++) Due.queued(y, 0, 0, f, 1);
      y.batches(1, 4);
      for (int f = 0; f < 5; f++) Due.eq("batch of " + f, y.batchOf(f), f < 4 ? f : NONE);
    });
    Edge.test("Promise 30, wouldLand", "IndexOutOfBoundsException if there is no such change", () -> {
      for (int n : new int[] {0, 1, 3, 60}) range("wouldLand", () -> queued(n), n - 1, (x, c) -> Edge.bit(x.wouldLand(c)));
    });
    Edge.test("Promise 30, wouldLand", "false if it is not QUEUED", () -> {
      for (int s : STATES) Due.eq(Edge.nameOf(s), Edge.bit(Edge.changeIn(s).wouldLand(0)), s == QUEUED ? 1 : 0);
    });
    Edge.test("Promise 33, landedBy", "IndexOutOfBoundsException if there is no such change", () -> {
      for (int n : new int[] {0, 1, 3, 60}) range("landedBy", () -> landed(n), n - 1, (x, c) -> x.landedBy(c));
    });
    Edge.test("Promise 33, landedBy", "the commit; NONE if it is not LANDED", () -> {
      for (int s : STATES) Due.eq(Edge.nameOf(s), Edge.changeIn(s).landedBy(0), s == LANDED ? 1 : NONE);
      Greentrunk x = landed(60);
      for (int i = 0; i < 60; i++) Due.eq("change " + i, x.landedBy(i), i + 1);
    });
    oneByOne();
  }

  private static void oneByOne() {
    String where = "Terms, one by one";
    Edge.test(where, "by what is there at the call: behind a revert, a test, a line, a drop, and what was told", () -> {
      Greentrunk x = landed(1);
      int revert = x.revert(1, 0);
      Due.is("behind a revert", x.wouldLand(revert));
      x.test(2, 1, 0);
      x.outside(0, true);
      Due.is("a test that it does not require", x.wouldLand(revert));
      x.line(0, Edge.ALWAYS, 0);
      Due.not("behind a line", x.wouldLand(revert));
      x.outside(0, false);
      Due.is("mended", x.wouldLand(revert));
      x.test(1, 1, 0);
      x.breaks(1, 0, 0, 0, 0);
      Due.not("behind a test and its rule", x.wouldLand(revert));
      x.drop(revert);
      Due.not("dropped", x.wouldLand(revert));
    });
    Edge.test(where, "in the order of the queue, each on the trunk as it is then: also if batches would not take it yet", () -> {
      Greentrunk x = new Greentrunk();
      for (int i = 0; i < 60; i++) x.queue(Due.change(x, 0, i - 1, 0, 1 + i % 9), 0);
      for (int i = 0; i < 60; i++) Due.is("of a stack of 60, " + i, x.wouldLand(i));
      Greentrunk y = queued(60);
      for (int i = 0; i < 60; i++) Due.eq("of 60 of the same file, " + i, Edge.bit(y.wouldLand(i)), i == 0 ? 1 : 0);
    });
    Edge.test(where, "its parent is neither LANDED nor would have landed", () -> {
      Greentrunk x = Edge.tests(1);
      x.breaks(0, 0, 1, 0, 1);
      int bad = Due.queued(x, 0, 0, 0, 1);
      int child = Due.change(x, 0, bad, 1, 1), deep = Due.change(x, 0, child, 2, 1);
      x.queue(child, 0);
      x.queue(deep, 0);
      Due.not("the lowest", x.wouldLand(bad));
      Due.not("on it", x.wouldLand(child));
      Due.not("and on that", x.wouldLand(deep));
      Greentrunk y = Edge.childOfOneIn(LANDED);
      y.queue(1, 0);
      Due.is("its parent is LANDED", y.wouldLand(1));
      Greentrunk z = Edge.childOfOneIn(QUEUED);
      z.queue(1, 0);
      Due.is("its parent would have landed", z.wouldLand(1));
    });
    Edge.test(where, "a change that would not land leaves the trunk as it is for the others", () -> {
      Greentrunk x = Edge.tests(1);
      x.breaks(0, 0, 1, 0, 1);
      int bad = Due.queued(x, 0, 0, 0, 1, 1, 1), same = Due.queued(x, 0, 0, 0, 2), other = Due.queued(x, 0, 0, 1, 2);
      Due.not("bad", x.wouldLand(bad));
      Due.is("file 0 is as it was", x.wouldLand(same));
      Due.is("file 1 is as it was", x.wouldLand(other));
    });
    Edge.test(where, "by its verdict, or by its runs from the next one on, until one passes or as many failed as are allowed", () -> {
      // file 0 with 8: draws 0, 9; with 7: 1, 0, 9; with 6: 2, 1, 0, 9
      for (int degree : Edge.from(0, 3)) {
        Greentrunk x = new Greentrunk();
        x.test(1, 1, degree);
        for (int content : Edge.from(6, 8)) {
          int c = Due.queued(x, 0, 0, 0, content);
          int failing = 8 - content < degree ? 9 - content : 0;
          Due.eq("degree " + degree + ", content " + content, Edge.bit(x.wouldLand(c)), failing < 2 ? 1 : 0);
          x.drop(c);
        }
        Due.eq("nothing is told", x.runs(0), 0);
      }
      Greentrunk x = new Greentrunk();
      x.test(1, 1, 2);
      int c = Due.queued(x, 0, 0, 0, 7);
      x.tick(2);
      Due.not("one failed, and the next one does", x.wouldLand(c));
      x.tick(1);
      Due.not("FAILED", x.wouldLand(c));
      x.outside(0, true);
      Due.not("broken", x.wouldLand(c));
    });
    Edge.test(where, "each test that it requires: all of 10, the last one alone fails", () -> {
      Greentrunk x = Edge.tests(10);
      int c = Due.queued(x, 0, 0, 0, 1);
      Due.is("all pass", x.wouldLand(c));
      for (int t : Edge.from(0, 9)) {
        x.outside(t, true);
        Due.not("test " + t, x.wouldLand(c));
        x.outside(t, false);
      }
      Due.is("all pass again", x.wouldLand(c));
    });
  }

  // ---- promises 26 and 27

  private static void ofTheQueue() {
    Edge.test("Promise 26, queued", "0 to 60", () -> {
      for (int n : new int[] {0, 1, 2, 59, 60}) Due.eq("queued", queued(n).queued(), n);
      Greentrunk x = queued(60);
      for (int i = 59; i >= 0; i--) {
        x.drop(i);
        Due.eq("left", x.queued(), i);
      }
    });
    Edge.test("Promise 27, queuedAt", "place: 0 for the first one; IndexOutOfBoundsException if there is no such place", () -> {
      for (int n : new int[] {0, 1, 3, 60}) range("queuedAt", () -> queued(n), n - 1, (x, p) -> x.queuedAt(p));
      Greentrunk x = queued(60);
      for (int i = 0; i < 60; i++) Due.eq("place " + i, x.queuedAt(i), i);
      x.drop(0);
      Due.eq("the next one", x.queuedAt(0), 1);
      Due.index("the last place is none any more", x, g -> g.queuedAt(59));
      Edge.index("the queue is empty again", () -> {
        Greentrunk y = queued(1);
        y.tick(1);
        return y;
      }, g -> g.queuedAt(0));
      Edge.index("a DRAFT is in no place", () -> Edge.drafts(1), g -> g.queuedAt(0));
    });
  }

  // ---- promise 29

  private static void broken() {
    String where = "Promise 29, isBroken";
    Edge.test(where, "only if the first batch has FAILED, and all that FAILED have FAILED on the tree behind the good one", () -> {
      Due.not("an empty queue", new Greentrunk().isBroken());
      Due.not("no tests", queued(1).isBroken());
      Greentrunk x = Edge.tests(1);
      x.outside(0, true);
      x.fullRun();
      x.tick(3);
      Due.eq("FAILED on the trunk", x.verdict(0, 0), FAILED);
      Due.not("but the queue is empty", x.isBroken());
      int c = Due.queued(x, 0, 0, 0, 1);
      Due.not("the batch is OPEN", x.isBroken());
      x.tick(2);
      Due.not("it has failed once", x.isBroken());
      x.tick(1);
      Due.is("it has FAILED", x.isBroken());
      Due.queued(x, 0, 3, 1, 1);
      Due.not("another is the first batch now, and requires nothing", x.isBroken());
      x.tick(1);
      Due.is("it has landed", x.isBroken());
      x.outside(0, false);
      Due.not("all is OPEN again", x.isBroken());
      Due.eq("QUEUED", x.state(c), QUEUED);
      x.outside(0, true);
      x.tick(5);
      Due.is("broken again", x.isBroken());
      x.drop(c);
      Due.not("the batch has left the queue", x.isBroken());
    });
    Edge.test(where, "as long as a beginning is between, it is not", () -> {
      for (int n : Edge.from(1, 8)) {
        Greentrunk x = Edge.tests(1);
        x.outside(0, true);
        x.batches(n, 1);
        for (int i = 0; i < n; i++) Due.queued(x, 0, 0, i == n - 1 ? 0 : i + 1, 1);
        x.line(0, Edge.TOUCHES, 11);
        x.tick(3);
        // all beginnings but that of all require nothing, so the good one is that of n - 1, and has the trunk's file 0
        Due.not("a batch of " + n + ": the tree behind the good one is OPEN", x.isBroken());
        x.tick(1);
        Due.not("it has failed there once", x.isBroken());
        x.tick(1);
        Due.is("it has FAILED there", x.isBroken());
      }
    });
  }

  // ---- promises 31 and 32, 34

  private static void ofCommits() {
    Edge.test("Promise 31, commits", "1 to 61", () -> {
      for (int n : new int[] {0, 1, 2, 59, 60}) Due.eq("commits", landed(n).commits(), n + 1);
    });
    Edge.test("Promise 32, content", "IndexOutOfBoundsException if there is no such commit or file", () -> {
      for (int n : new int[] {0, 1, 3, 60}) {
        range("content of commit", () -> landed(n), n, (x, c) -> x.content(c, 11));
        range("content of file", () -> landed(n), 11, (x, f) -> x.content(n, f));
      }
      Edge.index("both", Greentrunk::new, g -> g.content(1, 12));
      Edge.index("both", Greentrunk::new, g -> g.content(-1, -1));
    });
    Edge.test("Promise 32, content", "0 to 9; of each of 61 commits", () -> {
      Greentrunk x = landed(60);
      for (int c = 0; c <= 60; c++) {
        for (int f = 0; f < 12; f++) Due.eq("commit " + c + ", file " + f, x.content(c, f), (c + 11 - f) / 12);
      }
      Greentrunk y = new Greentrunk();
      for (int i = 1; i <= 9; i++) {
        Due.queued(y, 0, 0, 11, i);
        y.tick(1);
        Due.eq("content", y.content(i, 11), i);
      }
    });
    Edge.test("Promise 34, verdict", "IndexOutOfBoundsException if there is no such test or commit", () -> {
      for (int n : new int[] {0, 1, 10}) {
        range("verdict of test", () -> Edge.tests(n), n - 1, (x, t) -> x.verdict(t, 0));
        if (n > 0) range("verdict of commit", () -> Edge.tests(n), 0, (x, c) -> x.verdict(n - 1, c));
      }
      for (int n : new int[] {0, 1, 60}) {
        range("verdict of commit", () -> {
          Greentrunk x = landed(n);
          x.test(1, 1, 0);
          return x;
        }, n, (x, c) -> x.verdict(0, c));
      }
      Edge.index("both", Greentrunk::new, g -> g.verdict(0, 1));
      Edge.index("both", () -> Edge.tests(1), g -> g.verdict(1, -1));
    });
    Edge.test("Promise 34, verdict", "OPEN, PASSED or FAILED: 0 to 2", () -> {
      Greentrunk x = Edge.tests(3);
      x.outside(1, true);
      for (int t = 0; t < 3; t++) Due.eq("at first", x.verdict(t, 0), OPEN);
      x.fullRun();
      x.tick(4);
      Due.eq("PASSED", x.verdict(0, 0), 1);
      Due.eq("FAILED", x.verdict(1, 0), 2);
      Due.eq("OPEN, it is on", x.verdict(2, 0), 0);
      Due.eq("PASSED", PASSED, 1);
    });
  }

  // ---- promises 35 to 37: of a test

  private static void ofTests() {
    Edge.test("Promise 35, runs", "IndexOutOfBoundsException if there is no such test", () -> {
      for (int n : new int[] {0, 1, 3, 10}) range("runs", () -> Edge.tests(n), n - 1, (x, t) -> x.runs(t));
    });
    Edge.test("Promise 35, runs", "told for all contents, since its verdicts were made OPEN last: those that failed, too, none that is on", () -> {
      Greentrunk x = Edge.tests(2);
      x.outside(0, true);
      Due.eq("none", x.runs(0), 0);
      x.fullRun();
      x.tick(1);
      Due.eq("it is on", x.runs(0), 0);
      x.tick(1);
      Due.eq("one failed", x.runs(0), 1);
      x.tick(1);
      Due.eq("two failed", x.runs(0), 2);
      x.tick(30);
      Due.eq("FAILED for good", x.runs(0), 2);
      Due.eq("the other", x.runs(1), 1);
      x.outside(0, false);
      Due.eq("made OPEN", x.runs(0), 0);
      for (int c = 1; c < 10; c++) {
        Due.queued(x, 0, 0, 0, c);
        x.tick(3);
        Due.eq("of each content", x.runs(0), c);
      }
      x.letBack(0);
      Due.eq("letBack makes none OPEN", x.runs(0), 9);
    });
    Edge.test("Promise 36, flaked", "IndexOutOfBoundsException if there is no such test", () -> {
      for (int n : new int[] {0, 1, 3, 10}) range("flaked", () -> Edge.tests(n), n - 1, (x, t) -> x.flaked(t));
    });
    Edge.test("Promise 37, isQuarantined", "IndexOutOfBoundsException if there is no such test", () -> {
      for (int n : new int[] {0, 1, 3, 10}) range("isQuarantined", () -> Edge.tests(n), n - 1, (x, t) -> Edge.bit(x.isQuarantined(t)));
    });
    Edge.test("Promises 36 and 37", "0 and no at first, each test has its own", () -> {
      Greentrunk x = new Greentrunk();
      x.test(2, 1, 9);
      x.test(1, 1, 0);
      for (int t = 0; t < 2; t++) Due.eq("flaked", x.flaked(t), 0);
      // test 0 of file 1: with 9 the draw is 9: it passes at once; its first draw with 8 is 0, then 9: it flakes
      Due.queued(x, 0, 0, 1, 8);
      x.tick(3);
      Due.eq("flaked", x.flaked(0), 1);
      Due.eq("the other not", x.flaked(1), 0);
      x.outside(0, true);
      x.outside(0, false);
      x.fullRun();
      x.tick(6);
      Due.eq("flaked", x.flaked(0), 2);
      Due.is("in quarantine", x.isQuarantined(0));
      Due.not("the other not", x.isQuarantined(1));
    });
  }

  // ---- promises 38 to 41

  private static void others() {
    Edge.test("Promise 38, blame", "author: 0 to 7", () -> {
      range("blame", Greentrunk::new, 7, (x, a) -> x.blame(a));
      for (int a : Edge.from(0, 7)) {
        Greentrunk x = Edge.tests(1);
        x.breaks(0, 0, 1, 0, 1);
        Due.queued(x, a, 0, 0, 1);
        x.tick(4);
        for (int i = 0; i < 8; i++) Due.eq("blame of " + i, x.blame(i), i == a ? 1 : 0);
      }
    });
    Edge.test("Promise 39, running", "machine: 0 to 5", () -> {
      range("running", Greentrunk::new, 5, (x, m) -> x.running(m));
    });
    Edge.test("Promise 39, running", "the test; NONE if it runs nothing, or is not there", () -> {
      Greentrunk x = Edge.tests(5);
      for (int m = 1; m < 6; m++) x.come(m);
      x.vanish(2);
      x.fullRun();
      for (int m = 0; m < 6; m++) Due.eq("ahead of the tick", x.running(m), NONE);
      x.tick(1);
      int[] due = {0, 1, NONE, 2, 3, 4};
      for (int m = 0; m < 6; m++) Due.eq("machine " + m, x.running(m), due[m]);
      x.vanish(4);
      Due.eq("not there any more", x.running(4), NONE);
      x.come(4);
      Due.eq("it runs nothing yet", x.running(4), NONE);
      x.tick(1);
      Due.eq("the lost one is taken by the lowest", x.running(0), 3);
      for (int m = 1; m < 6; m++) Due.eq("machine " + m, x.running(m), NONE);
      Greentrunk y = Edge.tests(10);
      for (int t = 0; t < 9; t++) y.breaks(t, 0, 0, 0, 0);
      y.fullRun();
      y.tick(19);
      Due.eq("the last of 10", y.running(0), 9);
    });
    Edge.test("Promise 40, use", "team: 0 to 2", () -> {
      range("use", Greentrunk::new, 2, (x, t) -> x.use(t));
      for (int a : Edge.from(0, 7)) {
        Greentrunk x = new Greentrunk();
        x.test(1, 6, 0);
        Due.queued(x, a, 0, 0, 1);
        Due.eq("ahead of the tick", x.use(a % 3), 0);
        x.tick(1);
        for (int t = 0; t < 3; t++) Due.eq("author " + a + ", team " + t, x.use(t), t == a % 3 ? 6 : 0);
      }
    });
    Edge.test("Promise 40, use", "of no team: a full run, and a batch that is bisected", () -> {
      Greentrunk x = Edge.tests(1);
      x.fullRun();
      x.tick(2);
      Due.eq("a run", x.runs(0), 1);
      Due.eq("a full run", x.use(0) + x.use(1) + x.use(2), 0);
      Greentrunk y = Edge.tests(1);
      y.breaks(0, 0, 1, 0, 1);
      Due.queued(y, 2, 0, 0, 1);
      y.tick(4);
      Due.eq("three runs", y.runs(0), 3);
      Due.eq("that on the trunk is of no team", y.use(2), 2);
    });
    Edge.test("Promise 41, fullFailed", "NONE if none is over", () -> {
      Greentrunk x = new Greentrunk();
      Due.eq("none", x.fullFailed(), NONE);
      x.test(1, 6, 0);
      x.tick(30);
      Due.eq("none is asked for", x.fullFailed(), NONE);
      x.fullRun();
      x.tick(6);
      Due.eq("it is on", x.fullFailed(), NONE);
      x.tick(1);
      Due.eq("it is over", x.fullFailed(), 0);
      x.outside(0, true);
      x.fullRun();
      x.tick(5);
      Due.eq("the latest that is over", x.fullFailed(), 0);
    });
  }

  public static void main(String[] args) {
    counts();
    ofChanges();
    ofTheQueue();
    broken();
    ofCommits();
    ofTests();
    others();
    Edge.end("EdgeAskedTest");
  }
}
