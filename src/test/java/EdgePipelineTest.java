/** The boundaries that promises 11 to 15 name, and those of "Terms": tests, and verdicts. */
public final class EdgePipelineTest {
  private static final int NONE = Edge.NONE;
  private static final int OPEN = Edge.OPEN, PASSED = Edge.PASSED, FAILED = Edge.FAILED;
  private static final int ALWAYS = Edge.ALWAYS, TOUCHES = Edge.TOUCHES, BY = Edge.BY;

  /** A draft of each single file, the change f of the file f. */
  private static Greentrunk draftOfEachFile() {
    Greentrunk x = new Greentrunk();
    for (int f = 0; f < 12; f++) Due.change(x, f % 8, NONE, f, 1);
    return x;
  }

  // ---- promise 11

  private static void addTest() {
    String where = "Promise 11, test";
    Edge.test(where, "files: 1 to 4095, bit f for the file f", () -> {
      for (int files : new int[] {1, 2, 3, 1024, 2047, 2048, 2049, 4094, 4095}) {
        Greentrunk x = draftOfEachFile();
        Due.eq("files " + files, x.test(files, 1, 0), 0);
        for (int f = 0; f < 12; f++) Due.eq("watches " + f, x.requires(f), files >> f & 1);
      }
      for (int files : Edge.outside(1, 4095)) Edge.argument("files " + files, () -> Edge.tests(1), g -> g.test(files, 1, 0));
    });
    Edge.test(where, "time: 1 to 6", () -> {
      for (int time : Edge.from(1, 6)) {
        Greentrunk x = new Greentrunk();
        Due.eq("time " + time, x.test(1, time, 0), 0);
        Due.queued(x, 0, 0, 0, 1);
        Due.eq("it is taken in the first tick", x.tick(time), 0);
        Due.eq("it is on", x.running(0), 0);
        Due.eq("it lands " + time + " ticks later", x.tick(1), 1);
        Due.eq("use", x.use(0), time);
      }
      for (int time : Edge.outside(1, 6)) Edge.argument("time " + time, () -> Edge.tests(1), g -> g.test(1, time, 0));
    });
    Edge.test(where, "flaky: 0 to 9", () -> {
      for (int flaky : Edge.from(0, 9)) Edge.takes("flaky " + flaky, () -> Edge.tests(1), g -> g.test(1, 1, flaky), 1);
      for (int flaky : Edge.outside(0, 9)) Edge.argument("flaky " + flaky, () -> Edge.tests(1), g -> g.test(1, 1, flaky));
    });
    Edge.test(where, "IllegalStateException if there are 10", () -> {
      for (int n : Edge.from(0, 9)) Edge.takes("after " + n, () -> Edge.tests(n), g -> g.test(4095, 6, 9), n);
      Edge.state("after 10", () -> Edge.tests(10), g -> g.test(1, 1, 0));
    });
    Edge.test(where, "an argument comes ahead of the state", () -> {
      Edge.argument("files", () -> Edge.tests(10), g -> g.test(0, 1, 0));
      Edge.argument("time", () -> Edge.tests(10), g -> g.test(1, 7, 0));
      Edge.argument("flaky", () -> Edge.tests(10), g -> g.test(1, 1, -1));
    });
    Edge.test(where, "the last of 10 is required, run and answered like the first", () -> {
      Greentrunk x = new Greentrunk();
      for (int t = 0; t < 10; t++) x.test(1 << t, 1, 0);
      int c = Due.queued(x, 0, 0, 0, 1, 9, 1);
      Due.eq("bits 0 and 9", x.requires(c), 1 << 9 | 1);
      x.tick(1);
      Due.eq("0 first", x.running(0), 0);
      x.tick(1);
      Due.eq("then 9", x.running(0), 9);
      Due.eq("it lands", x.tick(1), 1);
      Due.eq("PASSED", x.verdict(9, 1), PASSED);
      Due.eq("runs", x.runs(9), 1);
    });
  }

  // ---- promise 12

  /** Two tests of the files 2 and 9 that have PASSED on the commit 0. */
  private static Greentrunk twoTests() {
    Greentrunk x = new Greentrunk();
    x.test(1 << 2 | 1 << 9, 1, 0);
    x.test(1 << 2 | 1 << 9, 1, 0);
    x.fullRun();
    x.tick(3);
    Due.eq("PASSED", x.verdict(0, 0), PASSED);
    return x;
  }

  private static Greentrunk sixRules() {
    Greentrunk x = twoTests();
    for (int i = 0; i < 6; i++) x.breaks(0, 2, 9, 9, i);
    return x;
  }

  private static void breaks() {
    String where = "Promise 12, breaks";
    Edge.test(where, "test: a test", () -> {
      Edge.index("0, when there is none", Greentrunk::new, g -> g.breaks(0, 0, 0, 0, 0));
      for (int t : Edge.from(0, 1)) Edge.takes("test " + t, EdgePipelineTest::twoTests, g -> g.breaks(t, 2, 0, 9, 0), 1);
      for (int t : Edge.outside(0, 1)) Edge.index("test " + t, EdgePipelineTest::twoTests, g -> g.breaks(t, 2, 0, 9, 0));
      Edge.takes("test 9 of 10", () -> Edge.tests(10), g -> g.breaks(9, 0, 9, 0, 9), 1);
      for (int t : Edge.outside(0, 9)) Edge.index("test " + t + " of 10", () -> Edge.tests(10), g -> g.breaks(t, 0, 9, 0, 9));
    });
    Edge.test(where, "file and other: 0 to 11, IndexOutOfBoundsException if there is no such file", () -> {
      Edge.Start all = () -> {
        Greentrunk x = new Greentrunk();
        x.test(4095, 1, 0);
        return x;
      };
      for (int f : Edge.from(0, 11)) {
        Edge.takes("file " + f, all, g -> g.breaks(0, f, 1, 11 - f, 2), 1);
      }
      for (int f : Edge.outside(0, 11)) {
        Edge.index("file " + f, all, g -> g.breaks(0, f, 0, 0, 0));
        Edge.index("other " + f, all, g -> g.breaks(0, 0, 0, f, 0));
        Edge.index("file " + f + ", two tests", EdgePipelineTest::twoTests, g -> g.breaks(0, f, 0, 2, 0));
        Edge.index("other " + f + ", two tests", EdgePipelineTest::twoTests, g -> g.breaks(0, 2, 0, f, 0));
      }
    });
    Edge.test(where, "IllegalArgumentException if it does not watch both", () -> {
      for (int f : Edge.from(0, 11)) {
        boolean isWatched = f == 2 || f == 9;
        if (isWatched) {
          Edge.takes("both are " + f, EdgePipelineTest::twoTests, g -> g.breaks(0, f, 1, f, 1), 1);
        } else {
          Edge.argument("file " + f, EdgePipelineTest::twoTests, g -> g.breaks(0, f, 1, 2, 1));
          Edge.argument("other " + f, EdgePipelineTest::twoTests, g -> g.breaks(0, 9, 1, f, 1));
          Edge.argument("both " + f, EdgePipelineTest::twoTests, g -> g.breaks(0, f, 1, f, 1));
        }
      }
    });
    Edge.test(where, "content and its: 0 to 9", () -> {
      for (int c : Edge.from(0, 9)) {
        Greentrunk x = twoTests();
        Due.eq("content " + c, x.breaks(0, 2, c, 9, 9 - c), 1);
        int both = Due.change(x, 0, NONE, 2, c == 0 ? 1 : c, 9, c == 9 ? 1 : 9 - c);
        x.queue(both, 0);
        Due.eq("broken by " + c, Edge.bit(x.wouldLand(both)), c == 0 || c == 9 ? 1 : 0);
      }
      Greentrunk zero = twoTests();
      zero.breaks(0, 2, 0, 9, 9);
      zero.breaks(1, 2, 9, 9, 0);
      Due.not("0 and 9", zero.wouldLand(Due.queued(zero, 0, 0, 9, 9)));
      Due.not("9 and 0", zero.wouldLand(Due.queued(zero, 0, 1, 2, 9)));
      for (int c : Edge.outside(0, 9)) {
        Edge.argument("content " + c, EdgePipelineTest::twoTests, g -> g.breaks(0, 2, c, 9, 0));
        Edge.argument("its " + c, EdgePipelineTest::twoTests, g -> g.breaks(0, 2, 0, 9, c));
      }
    });
    Edge.test(where, "IllegalStateException if it has 6; returns how many rules it has then", () -> {
      Greentrunk x = twoTests();
      for (int i : Edge.from(1, 6)) Due.eq("rule " + i, x.breaks(0, 2, 9, 9, 9), i);
      Due.state("a seventh", x, g -> g.breaks(0, 2, 9, 9, 9));
      Edge.state("a seventh", EdgePipelineTest::sixRules, g -> g.breaks(0, 2, 8, 9, 8));
      Edge.takes("the other test has none", EdgePipelineTest::sixRules, g -> g.breaks(1, 2, 8, 9, 8), 1);
    });
    Edge.test(where, "each of 6 rules holds, the first and the last", () -> {
      for (int i : Edge.from(0, 6)) {
        Greentrunk x = sixRules();
        int c = Due.change(x, 0, NONE, 2, 9, 9, i == 0 ? 8 : i);
        if (i == 0) {
          c = Due.change(x, 0, NONE, 2, 9);
        }
        x.queue(c, 0);
        Due.eq("9 and " + i, Edge.bit(x.wouldLand(c)), i == 6 ? 1 : 0);
      }
    });
    Edge.test(where, "test and file come ahead of the other arguments, and these ahead of the state", () -> {
      Edge.index("test and file", EdgePipelineTest::twoTests, g -> g.breaks(2, 12, 0, 2, 0));
      Edge.index("test and content", EdgePipelineTest::twoTests, g -> g.breaks(-1, 2, 10, 2, 0));
      Edge.index("file and content", EdgePipelineTest::twoTests, g -> g.breaks(0, 12, 10, 2, 0));
      Edge.index("other and its", EdgePipelineTest::twoTests, g -> g.breaks(0, 2, 0, -1, -1));
      Edge.index("other, and a file that it does not watch", EdgePipelineTest::twoTests, g -> g.breaks(0, 0, 0, 12, 0));
      Edge.index("file and 6 rules", EdgePipelineTest::sixRules, g -> g.breaks(0, -1, 0, 2, 0));
      Edge.argument("content and 6 rules", EdgePipelineTest::sixRules, g -> g.breaks(0, 2, 10, 2, 0));
      Edge.argument("its and 6 rules", EdgePipelineTest::sixRules, g -> g.breaks(0, 2, 0, 2, -1));
      Edge.argument("a file that it does not watch and 6 rules", EdgePipelineTest::sixRules, g -> g.breaks(0, 2, 0, 3, 0));
    });
    Edge.test(where, "another rule makes all verdicts OPEN, also the same rule once more; a refused one makes none OPEN", () -> {
      Greentrunk x = twoTests();
      Due.index("refused", x, g -> g.breaks(0, 12, 0, 2, 0));
      Due.argument("refused", x, g -> g.breaks(0, 2, 10, 2, 0));
      Due.eq("PASSED still", x.verdict(0, 0), PASSED);
      x.breaks(0, 2, 9, 9, 9);
      Due.eq("OPEN", x.verdict(0, 0), OPEN);
      Due.eq("no runs", x.runs(0), 0);
      Due.eq("the other one's is not", x.verdict(1, 0), PASSED);
      x.fullRun();
      x.tick(2);
      Due.eq("PASSED", x.verdict(0, 0), PASSED);
      x.breaks(0, 2, 9, 9, 9);
      Due.eq("OPEN again", x.verdict(0, 0), OPEN);
      x.fullRun();
      x.tick(2);
      x.breaks(0, 2, 9, 2, 8);
      Due.eq("OPEN again, by a rule that never holds", x.verdict(0, 0), OPEN);
      Greentrunk y = sixRules();
      y.fullRun();
      y.tick(2);
      Due.state("a seventh", y, g -> g.breaks(0, 2, 1, 9, 1));
      Due.eq("PASSED still", y.verdict(0, 0), PASSED);
      Due.eq("and its run", y.runs(0), 1);
    });
  }

  // ---- promise 13

  private static void outside() {
    String where = "Promise 13, outside";
    Edge.test(where, "test: a test", () -> {
      Edge.index("0, when there is none", Greentrunk::new, g -> g.outside(0, true));
      for (int t : Edge.from(0, 1)) Edge.takes("test " + t, EdgePipelineTest::twoTests, g -> Edge.bit(g.outside(t, true)), 0);
      for (int t : Edge.outside(0, 1)) {
        Edge.index("test " + t, EdgePipelineTest::twoTests, g -> g.outside(t, true));
        Edge.index("test " + t + ", mended", EdgePipelineTest::twoTests, g -> g.outside(t, false));
      }
      Edge.takes("test 9 of 10", () -> Edge.tests(10), g -> Edge.bit(g.outside(9, true)), 0);
      for (int t : Edge.outside(0, 9)) Edge.index("test " + t + " of 10", () -> Edge.tests(10), g -> g.outside(t, true));
    });
    Edge.test(where, "returns whether it was", () -> {
      Greentrunk x = twoTests();
      boolean was = false;
      for (boolean is : new boolean[] {false, true, true, false, false, true}) {
        Due.eq("it was", Edge.bit(x.outside(0, is)), Edge.bit(was));
        was = is;
      }
      Due.not("the other was not", x.outside(1, false));
    });
    Edge.test(where, "one that was and is, or was not and is not, keeps its verdicts and its run that is on", () -> {
      for (boolean is : new boolean[] {false, true}) {
        Greentrunk x = new Greentrunk();
        x.test(1, 2, 0);
        x.outside(0, is);
        x.fullRun();
        x.tick(1);
        x.outside(0, is);
        x.tick(2);
        Due.eq("the run has told", x.runs(0), 1);
        x.outside(0, is);
        Due.eq("and counts", x.runs(0), 1);
        x.tick(2);
        Due.eq("its verdict", x.verdict(0, 0), is ? FAILED : PASSED);
        x.outside(0, is);
        Due.eq("is kept", x.verdict(0, 0), is ? FAILED : PASSED);
      }
    });
    Edge.test(where, "when it comes to be broken, or is not any more, all its verdicts are OPEN with no runs", () -> {
      Greentrunk x = twoTests();
      x.outside(0, true);
      Due.eq("OPEN", x.verdict(0, 0), OPEN);
      Due.eq("no runs", x.runs(0), 0);
      x.fullRun();
      x.tick(2);
      Due.eq("one run has failed", x.runs(0), 1);
      x.outside(0, false);
      Due.eq("no runs", x.runs(0), 0);
      x.outside(0, true);
      x.tick(2);
      Due.eq("one failed: that ahead does not count", x.verdict(0, 0), OPEN);
      x.tick(1);
      Due.eq("two failed", x.verdict(0, 0), FAILED);
      Due.eq("the other one's verdict stays", x.verdict(1, 0), PASSED);
    });
    Edge.test(where, "runs that are on tell nothing any more, also when it is as before again", () -> {
      Greentrunk x = new Greentrunk();
      x.test(1, 6, 0);
      x.fullRun();
      x.tick(1);
      x.outside(0, true);
      x.outside(0, false);
      Due.eq("it goes on", x.running(0), 0);
      x.tick(6);
      Due.eq("it told nothing", x.runs(0), 0);
      Due.eq("another is on", x.running(0), 0);
      x.tick(5);
      Due.eq("that tells, a tick sooner as the machine is warm", x.runs(0), 1);
      Due.eq("PASSED", x.verdict(0, 0), PASSED);
    });
  }

  // ---- promise 14

  private static Greentrunk lines(int many) {
    Greentrunk x = draftOfEachFile();
    x.test(1, 1, 0);
    x.test(1, 1, 0);
    for (int i = 0; i < many; i++) x.line(0, TOUCHES, 11);
    return x;
  }

  private static void line() {
    String where = "Promise 14, line";
    Edge.test(where, "test: a test", () -> {
      Edge.index("0, when there is none", Greentrunk::new, g -> g.line(0, ALWAYS, 0));
      for (int t : Edge.from(0, 1)) {
        Greentrunk x = lines(0);
        Due.eq("test " + t, x.line(t, ALWAYS, 0), 1);
        Due.eq("it is required", x.requires(11), 1 << t);
      }
      for (int t : Edge.outside(0, 1)) Edge.index("test " + t, () -> lines(3), g -> g.line(t, ALWAYS, 0));
      Edge.takes("test 9 of 10", () -> Edge.tests(10), g -> g.line(9, BY, 2), 1);
      for (int t : Edge.outside(0, 9)) Edge.index("test " + t + " of 10", () -> Edge.tests(10), g -> g.line(t, BY, 2));
    });
    Edge.test(where, "condition: ALWAYS, TOUCHES or BY", () -> {
      for (int c : Edge.from(0, 2)) Edge.takes("condition " + c, () -> lines(0), g -> g.line(1, c, 0), 1);
      for (int c : Edge.outside(0, 2)) Edge.argument("condition " + c, () -> lines(0), g -> g.line(1, c, 0));
    });
    Edge.test(where, "what: 0 for ALWAYS", () -> {
      Greentrunk x = lines(0);
      Due.eq("0", x.line(1, ALWAYS, 0), 1);
      for (int f = 0; f < 12; f++) Due.eq("change " + f, x.requires(f), f == 0 ? 3 : 2);
      for (int w : Edge.outside(0, 0)) Edge.argument("ALWAYS " + w, () -> lines(0), g -> g.line(1, ALWAYS, w));
    });
    Edge.test(where, "what: a file for TOUCHES, 0 to 11", () -> {
      for (int w : Edge.from(0, 11)) {
        Greentrunk x = lines(0);
        Due.eq("TOUCHES " + w, x.line(1, TOUCHES, w), 1);
        for (int f = 0; f < 12; f++) Due.eq("change " + f, x.requires(f), (f == 0 ? 3 : 0) | (f == w ? 2 : 0));
      }
      for (int w : Edge.outside(0, 11)) Edge.argument("TOUCHES " + w, () -> lines(0), g -> g.line(1, TOUCHES, w));
    });
    Edge.test(where, "what: a team for BY, 0 to 2", () -> {
      for (int w : Edge.from(0, 2)) {
        Greentrunk x = lines(0);
        Due.eq("BY " + w, x.line(1, BY, w), 1);
        for (int c = 0; c < 12; c++) Due.eq("change " + c, x.requires(c), (c == 0 ? 3 : 0) | (c % 8 % 3 == w ? 2 : 0));
      }
      for (int w : Edge.outside(0, 2)) Edge.argument("BY " + w, () -> lines(0), g -> g.line(1, BY, w));
    });
    Edge.test(where, "IllegalStateException if there are 12; returns how many lines there are then", () -> {
      for (int n : Edge.from(0, 11)) Edge.takes("after " + n, () -> lines(n), g -> g.line(1, BY, 0), n + 1);
      Edge.state("after 12", () -> lines(12), g -> g.line(1, BY, 0));
      Edge.state("after 12, of the other test", () -> lines(12), g -> g.line(0, ALWAYS, 0));
    });
    Edge.test(where, "the first and the last of 12 lines hold", () -> {
      Greentrunk x = draftOfEachFile();
      for (int t = 0; t < 3; t++) x.test(1, 1, 0);
      x.line(1, TOUCHES, 5);
      for (int i = 0; i < 10; i++) x.line(0, TOUCHES, 11);
      x.line(2, TOUCHES, 6);
      Due.eq("the first", x.requires(5), 2);
      Due.eq("the last", x.requires(6), 4);
      Due.eq("those between", x.requires(11), 1);
      Due.eq("none", x.requires(7), 0);
    });
    Edge.test(where, "the test comes ahead of the other arguments, and these ahead of the state", () -> {
      Edge.index("test and condition", () -> lines(0), g -> g.line(2, 3, 0));
      Edge.index("test and what", () -> lines(0), g -> g.line(-1, ALWAYS, 1));
      Edge.index("test and 12 lines", () -> lines(12), g -> g.line(2, ALWAYS, 0));
      Edge.argument("condition and 12 lines", () -> lines(12), g -> g.line(0, -1, 0));
      Edge.argument("ALWAYS 1 and 12 lines", () -> lines(12), g -> g.line(0, ALWAYS, 1));
      Edge.argument("TOUCHES 12 and 12 lines", () -> lines(12), g -> g.line(0, TOUCHES, 12));
      Edge.argument("BY 3 and 12 lines", () -> lines(12), g -> g.line(0, BY, 3));
    });
  }

  // ---- promise 15

  /** Of the degree 4, the draws of file 0 with 8 are 0 and 9: it flakes as often as told. */
  private static Greentrunk flaked(int often) {
    return flakedOf(4, often);
  }

  private static Greentrunk flakedOf(int degree, int often) {
    Greentrunk x = new Greentrunk();
    x.test(1, 1, degree);
    x.test(2, 1, 0);
    Due.queued(x, 0, 0, 0, 8);
    x.tick(often > 0 ? 3 : 1);
    for (int i = 1; i < often; i++) {
      x.outside(0, true);
      x.outside(0, false);
      x.fullRun();
      x.tick(5);
    }
    Due.eq("flaked", x.flaked(0), often);
    return x;
  }

  private static void letBack() {
    String where = "Promise 15, letBack";
    Edge.test(where, "test: a test", () -> {
      Edge.index("0, when there is none", Greentrunk::new, g -> g.letBack(0));
      for (int t : Edge.from(0, 1)) Edge.takes("test " + t, () -> flaked(2), g -> Edge.bit(g.letBack(t)), t == 0 ? 1 : 0);
      for (int t : Edge.outside(0, 1)) Edge.index("test " + t, () -> flaked(2), g -> g.letBack(t));
      Edge.takes("test 9 of 10", () -> Edge.tests(10), g -> Edge.bit(g.letBack(9)), 0);
      for (int t : Edge.outside(0, 9)) Edge.index("test " + t + " of 10", () -> Edge.tests(10), g -> g.letBack(t));
    });
    Edge.test(where, "returns whether it was in quarantine: not after 0 and 1, but after 2 and more", () -> {
      for (int often : Edge.from(0, 4)) {
        Greentrunk x = flaked(often);
        Due.eq("isQuarantined after " + often, Edge.bit(x.isQuarantined(0)), often >= 2 ? 1 : 0);
        Due.eq("letBack after " + often, Edge.bit(x.letBack(0)), often >= 2 ? 1 : 0);
        Due.not("not in it", x.isQuarantined(0));
        Due.not("nor was it", x.letBack(0));
      }
    });
    Edge.test(where, "it has not flaked since then: twice more is needed", () -> {
      for (int often : Edge.from(0, 3)) {
        Greentrunk x = flaked(often);
        x.letBack(0);
        Due.eq("flaked", x.flaked(0), 0);
        for (int again : Edge.from(1, 2)) {
          x.outside(0, true);
          x.outside(0, false);
          x.fullRun();
          x.tick(6);
          Due.eq("flaked again", x.flaked(0), again);
          Due.eq("in quarantine", Edge.bit(x.isQuarantined(0)), again == 2 ? 1 : 0);
        }
      }
    });
    Edge.test(where, "verdicts and runs stay", () -> {
      Greentrunk x = flaked(2);
      int runs = x.runs(0);
      x.letBack(0);
      Due.eq("verdict", x.verdict(0, 1), PASSED);
      Due.eq("runs", x.runs(0), runs);
    });
  }

  // ---- Terms: tests

  private static void terms() {
    String where = "Terms, tests";
    Edge.test(where, "one file has one content, and another file has one: both must", () -> {
      for (int first : Edge.from(0, 1)) {
        for (int second : Edge.from(0, 1)) {
          Greentrunk x = new Greentrunk();
          x.test(0b11, 1, 0);
          x.breaks(0, 0, 5, 1, 6);
          int c = Due.change(x, 0, NONE, 0, first == 1 ? 5 : 6, 1, second == 1 ? 6 : 5);
          x.queue(c, 0);
          Due.eq(first + " and " + second, Edge.bit(x.wouldLand(c)), 1 - first * second);
        }
      }
    });
    Edge.test(where, "another file (perhaps the same)", () -> {
      Greentrunk x = new Greentrunk();
      x.test(0b11, 1, 0);
      x.breaks(0, 0, 5, 0, 5);
      x.breaks(0, 0, 6, 0, 7);
      for (int c : Edge.from(1, 9)) {
        int made = Due.queued(x, 0, 0, 0, c);
        Due.eq("content " + c, Edge.bit(x.wouldLand(made)), c == 5 ? 0 : 1);
        x.drop(made);
      }
    });
    Edge.test(where, "a change without tests requires none, and has PASSED: all of no tests have", () -> {
      Greentrunk x = new Greentrunk();
      int c = Due.queued(x, 0, 0, 0, 1);
      Due.eq("requires", x.requires(c), 0);
      Due.is("would land", x.wouldLand(c));
      Due.eq("in the first tick", x.tick(1), 1);
      x.test(2, 1, 0);
      int d = Due.queued(x, 0, 0, 0, 2);
      Due.eq("requires none of 1", x.requires(d), 0);
      Due.eq("without a machine", Edge.bit(x.vanish(0)) + x.tick(1), 1);
    });
    Edge.test(where, "those that watch one of its files: the first or the last of 4, or all", () -> {
      for (int files : new int[] {1, 1 << 11, 1 << 5, 1 << 6, 1 | 1 << 11, 4095, 1 << 1 | 1 << 10}) {
        Greentrunk x = new Greentrunk();
        x.test(files, 1, 0);
        int c = Due.change(x, 0, NONE, 0, 1, 5, 1, 6, 1, 11, 1);
        Due.eq("watching " + files, x.requires(c), (files & (1 | 1 << 5 | 1 << 6 | 1 << 11)) != 0 ? 1 : 0);
      }
    });
    Edge.test(where, "required once, by a file and by lines", () -> {
      Greentrunk x = new Greentrunk();
      x.test(1, 1, 0);
      for (int i = 0; i < 4; i++) {
        x.line(0, ALWAYS, 0);
        x.line(0, TOUCHES, 0);
        x.line(0, BY, 1);
      }
      int c = Due.queued(x, 1, 0, 0, 1);
      Due.eq("bit 0", x.requires(c), 1);
      Due.eq("it lands", x.tick(2), 1);
      Due.eq("by one run", x.runs(0), 1);
    });
  }

  // ---- Terms: verdicts

  /** The draw as the document words it, a step behind the other. */
  static long draw(int test, int files, int[] contents, long k) {
    long c = test + 1;
    for (int f = 0; f < 12; f++) {
      if ((files >> f & 1) == 0) continue;
      c = c * 11 + (contents[f] + 1);
      c = c - c / 10007 * 10007;
    }
    long sum = c * 7919 + k * 104729;
    long by = sum - sum / 1000003 * 1000003;
    return by - by / 10 * 10;
  }

  /** How many runs a test that watches file 0, with a content, needs, and what its verdict is; -runs if it FAILED. */
  private static int runsFor(int degree, int content) {
    Greentrunk x = new Greentrunk();
    x.test(1, 1, degree);
    int c = Due.queued(x, 0, 0, 0, content);
    for (int i = 0; i < 9 && x.state(c) == Edge.QUEUED && x.runs(0) < 2; i++) x.tick(1);
    return x.state(c) == Edge.LANDED ? x.runs(0) : -x.runs(0);
  }

  private static void draws() {
    String where = "Terms, verdicts";
    Edge.test(where, "the draw, by hand", () -> {
      int[] none = new int[12];
      // c = 1*11 + 0+1 = 12; 12*7919 = 95028, the remainder by 1000003 is itself, by 10: 8; and 104729: 199757: 7
      Due.eq("file 0 with 0", draw(0, 1, none, 0), 8);
      Due.eq("and the second run", draw(0, 1, none, 1), 7);
      // c = 1*11+1 = 12, 12*11+1 = 133: 133*7919 = 1053227, by 1000003: 53224: 4
      Due.eq("two files, beyond 1000003", draw(0, 3, none, 0), 4);
      // c = 10: 120, 1330, then 14640 by 10007: 4633; 4633*7919 = 36688727, by 1000003: 688619... 36*1000003 = 36000108: 688619: 9
      Due.eq("three files with 9, beyond 10007", draw(9, 7, new int[] {9, 9, 9, 0, 0, 0, 0, 0, 0, 0, 0, 0}, 0), 9);
    });
    Edge.test(where, "less than the degree fails, the same or more passes: a content for each draw, each degree", () -> {
      for (int content : Edge.from(1, 9)) {
        int[] tree = new int[12];
        tree[0] = content;
        long first = draw(0, 1, tree, 0), second = draw(0, 1, tree, 1);
        for (int degree : Edge.from(0, 9)) {
          int want = first >= degree ? 1 : second >= degree ? 2 : -2;
          Due.eq("draws " + first + ", " + second + ", degree " + degree, runsFor(degree, content), want);
        }
      }
    });
    Edge.test(where, "the degree 0 never fails, also with the draw 0; the degree 9 passes with the draw 9 alone", () -> {
      Due.eq("draw 0, degree 0", runsFor(0, 8), 1);
      Due.eq("draw 0, degree 1, then 9", runsFor(1, 8), 2);
      Due.eq("draw 9, degree 9", runsFor(9, 9), 1);
      Due.eq("draws 7 and 6, degree 9", runsFor(9, 1), -2);
    });
    Edge.test(where, "by rising numbers, all 12 files, each content: the remainders by 10007 and 1000003", () -> {
      for (int last : Edge.from(0, 9)) {
        for (int degree : Edge.from(1, 9)) {
          Greentrunk x = new Greentrunk();
          for (int t = 0; t < 9; t++) x.test(1, 1, 0);
          x.test(4095, 1, degree);
          int[] tree = {9, 8, 7, 6, 5, 4, 3, 2, 1, 9, 8, last};
          for (int f = 0; f < 12; f++) if (tree[f] != 0) Due.queued(x, 0, 0, f, tree[f]);
          // one by one each is put onto those ahead that would land
          int[] now = new int[12];
          int c = 0;
          for (int f = 0; f < 12; f++) {
            if (tree[f] == 0) continue;
            int[] next = now.clone();
            next[f] = tree[f];
            boolean lands = draw(9, 4095, next, 0) >= degree || draw(9, 4095, next, 1) >= degree;
            if (lands) now = next;
            Due.eq("change " + c + " of the degree " + degree, Edge.bit(x.wouldLand(c)), Edge.bit(lands));
            c++;
          }
        }
      }
    });
  }

  /** Puts the content into file 0 by a change, queued, without letting it land. */
  private static int queuedContent(Greentrunk x, int content) {
    return Due.queued(x, 0, 0, 0, content);
  }

  private static void allowed() {
    String where = "Terms, verdicts";
    Edge.test(where, "FAILED, when as many runs failed as are allowed: 2", () -> {
      // with 7 the draws are 1 and 0
      Greentrunk x = new Greentrunk();
      x.test(1, 1, 2);
      int c = queuedContent(x, 7);
      x.tick(2);
      Due.eq("one failed", x.runs(0), 1);
      Due.eq("OPEN, so it is run again", x.running(0), 0);
      x.tick(1);
      Due.eq("two failed", x.runs(0), 2);
      Due.eq("FAILED, so the trunk is looked at", x.state(c), Edge.QUEUED);
      x.tick(4);
      Due.eq("RED", x.state(c), Edge.RED);
    });
    Edge.test(where, "or 5 if the test is in quarantine by then: 4 failed runs leave it OPEN", () -> {
      // with 5 the draws are 3, 2, 1, 0, 9
      Greentrunk x = flakedOf(4, 2);
      int c = queuedContent(x, 5);
      Due.is("the fifth would pass", x.wouldLand(c));
      int runs = x.runs(0);
      x.tick(5);
      Due.eq("four failed", x.runs(0), runs + 4);
      Due.eq("QUEUED", x.state(c), Edge.QUEUED);
      Due.is("one is left", x.wouldLand(c));
      Due.eq("the fifth passes", x.tick(1), 1);
      Due.eq("flaked once more, by four failed runs", x.flaked(0), 3);
    });
    Edge.test(where, "5 failed runs are FAILED in quarantine", () -> {
      // with 4 the draws are 4, 3, 2, 1, 0, of the degree 5 all fail; with 8: 0, 9
      Greentrunk x = flakedOf(5, 2);
      int c = queuedContent(x, 4);
      Due.not("all 5 would fail", x.wouldLand(c));
      int runs = x.runs(0);
      x.tick(5);
      Due.eq("four failed", x.runs(0), runs + 4);
      x.tick(1);
      Due.eq("five failed", x.runs(0), runs + 5);
      Due.eq("RED, as the trunk has PASSED", x.state(c), Edge.RED);
      Due.eq("no flake", x.flaked(0), 2);
    });
    Edge.test(where, "or more: let back with 2, 3 or 4 failed runs, the next one that fails is FAILED", () -> {
      for (int failed : Edge.from(1, 4)) {
        Greentrunk x = flakedOf(5, 2);
        int c = queuedContent(x, 4);
        int runs = x.runs(0);
        x.tick(1 + failed);
        Due.eq("failed", x.runs(0), runs + failed);
        x.letBack(0);
        Due.eq("QUEUED by itself", x.state(c), Edge.QUEUED);
        Due.not("one run at least, and it fails", x.wouldLand(c));
        x.tick(1);
        Due.eq("one more run", x.runs(0), runs + failed + 1);
        Due.eq("RED", x.state(c), Edge.RED);
      }
    });
    Edge.test(where, "PASSED, if a run passes, also when more failed than are allowed", () -> {
      // with 6 the draws are 2, 1, 0, 9: of the degree 3 three fail
      Greentrunk x = flakedOf(3, 2);
      int c = queuedContent(x, 6);
      x.tick(4);
      x.letBack(0);
      Due.is("the next one would pass", x.wouldLand(c));
      Due.eq("it passes", x.tick(1), 1);
      Due.eq("flaked", x.flaked(0), 1);
    });
    Edge.test(where, "a run that passes first flakes nothing", () -> {
      Greentrunk x = flaked(0);
      Due.queued(x, 0, 3, 1, 1);
      x.tick(4);
      Due.eq("test 1 has run", x.runs(1), 1);
      Due.eq("and not flaked", x.flaked(1), 0);
    });
    quarantine();
  }

  private static void quarantine() {
    String where = "Terms, verdicts";
    Edge.test(where, "into quarantine when it has flaked twice, not once, since it was let back last (or ever)", () -> {
      for (int often : Edge.from(0, 3)) Edge.takes(often + " times", () -> flaked(often), g -> Edge.bit(g.isQuarantined(0)), often / 2 > 0 ? 1 : 0);
      Edge.takes("once, let back, and once", () -> {
        Greentrunk x = flaked(1);
        x.letBack(0);
        x.outside(0, true);
        x.outside(0, false);
        x.fullRun();
        x.tick(6);
        Due.eq("flaked", x.flaked(0), 1);
        return x;
      }, g -> Edge.bit(g.isQuarantined(0)), 0);
    });
    Edge.test(where, "a set is FAILED if one has, also while others are OPEN; PASSED if all have; otherwise OPEN", () -> {
      Greentrunk x = new Greentrunk();
      x.test(1, 1, 0);
      x.test(1, 6, 0);
      x.breaks(0, 0, 1, 0, 1);
      x.come(1);
      int c = Due.queued(x, 0, 0, 0, 1);
      x.tick(2);
      Due.eq("the failing one is run again", x.running(0), 0);
      x.tick(1);
      Due.eq("it FAILED: the trunk is looked at, though test 1 is OPEN", x.running(0), 0);
      Due.eq("test 1 is on", x.running(1), 1);
      x.tick(1);
      Due.eq("RED ahead of the other's end", x.state(c), Edge.RED);
      Greentrunk y = new Greentrunk();
      y.test(1, 1, 0);
      y.test(1, 6, 0);
      y.come(1);
      int d = Due.queued(y, 0, 0, 0, 1);
      y.tick(6);
      Due.eq("one has PASSED, the other is OPEN", y.state(d), Edge.QUEUED);
      Due.eq("nothing is run again", y.running(0), NONE);
      Due.eq("both have", y.tick(1), 1);
    });
    Edge.test(where, "for contents of the files that it watches: other files are another tree, but the same verdict", () -> {
      Greentrunk x = new Greentrunk();
      x.test(1, 1, 0);
      Due.queued(x, 0, 0, 0, 1, 1, 1);
      x.tick(2);
      for (int f = 2; f < 12; f++) Due.queued(x, 0, 0, f, 1);
      x.line(0, ALWAYS, 0);
      Due.eq("all land at once", x.tick(1), 10);
      Due.eq("one run", x.runs(0), 1);
      for (int c = 1; c < 12; c++) Due.eq("verdict of commit " + c, x.verdict(0, c), PASSED);
      Due.eq("but not of commit 0", x.verdict(0, 0), OPEN);
    });
  }

  private static void eachItsOwn() {
    String where = "Terms, verdicts";
    Edge.test(where, "each test, and each content of each file, has a verdict of its own", () -> {
      for (int test : new int[] {0, 1, 7, 8, 9}) {
        for (int f = 0; f < 12; f++) {
          Greentrunk x = new Greentrunk();
          for (int t = 0; t < test; t++) x.test(1 << f, 1, 0);
          x.test(1 << f, 1, 0);
          x.line(test, TOUCHES, f);
          for (int m = 1; m < 6; m++) x.come(m);
          for (int content : Edge.from(1, 9)) {
            Due.queued(x, 0, 0, f, content);
            Due.eq("it needs runs", x.tick(1), 0);
            x.tick(2);
            Due.eq("test " + test + ", file " + f + ", content " + content, x.runs(test), content);
            Due.eq("PASSED", x.verdict(test, content), PASSED);
          }
          Due.eq("no run for 0", x.verdict(test, 0), OPEN);
          Due.queued(x, 0, 0, f, 0);
          x.tick(3);
          Due.eq("a run for 0", x.runs(test), 10);
          Due.queued(x, 0, 0, f, 8);
          Due.eq("8 has its verdict", x.tick(1), 1);
        }
      }
    });
    Edge.test(where, "verdicts that hold for hundreds of contents are used again", () -> {
      Greentrunk x = new Greentrunk();
      for (int t = 0; t < 10; t++) x.test(4095, 1, 0);
      for (int m = 1; m < 6; m++) x.come(m);
      for (int i = 0; i < 29; i++) {
        Due.queued(x, 0, 0, i % 12, 1 + i / 12);
        Due.eq("it lands", x.tick(3), 1);
      }
      for (int i = 29; i > 0; i--) {
        x.revert(i, 0);
        int due = i == 1 ? 0 : 1;
        Due.eq("the tree is that of a commit that is there: " + i, x.tick(1), due);
      }
      for (int t = 0; t < 10; t++) Due.eq("runs of " + t, x.runs(t), 29);
    });
  }

  public static void main(String[] args) {
    addTest();
    breaks();
    outside();
    line();
    letBack();
    terms();
    draws();
    allowed();
    eachItsOwn();
    Edge.end("EdgePipelineTest");
  }
}
