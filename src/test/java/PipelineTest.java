/** Promises 11 to 15: tests and the pipeline; with the verdicts that runs bring. */
public final class PipelineTest {
  private static final int NONE = Greentrunk.NONE;
  private static final int OPEN = Greentrunk.OPEN, PASSED = Greentrunk.PASSED, FAILED = Greentrunk.FAILED;
  private static final int ALWAYS = Greentrunk.ALWAYS, TOUCHES = Greentrunk.TOUCHES, BY = Greentrunk.BY;

  private static void promise11() {
    Greentrunk x = new Greentrunk();
    Due.argument("no files", x, g -> g.test(0, 1, 0));
    Due.argument("files -1", x, g -> g.test(-1, 1, 0));
    Due.argument("files 4096", x, g -> g.test(4096, 1, 0));
    Due.argument("time 0", x, g -> g.test(1, 0, 0));
    Due.argument("time 7", x, g -> g.test(1, 7, 0));
    Due.argument("flaky -1", x, g -> g.test(1, 1, -1));
    Due.argument("flaky 10", x, g -> g.test(1, 1, 10));
    Due.eq("the first", x.test(4095, 6, 9), 0);
    for (int t = 1; t < 10; t++) Due.eq("the next", x.test(1 << t, 1, 0), t);
    Due.state("an eleventh", x, g -> g.test(1, 1, 0));
    Due.argument("an argument ahead of the state", x, g -> g.test(0, 1, 0));
    int c = Due.change(x, 0, NONE, 0, 1, 5, 1, 9, 1);
    Due.eq("those that watch 0, 5 or 9", x.requires(c), 1 | 1 << 5 | 1 << 9);
  }

  private static void promise12() {
    Greentrunk x = new Greentrunk();
    Due.index("no test", x, g -> g.breaks(0, 0, 0, 0, 0));
    x.test(0b101, 1, 0);
    Due.index("test -1", x, g -> g.breaks(-1, 0, 0, 0, 0));
    Due.index("file 12 ahead of content", x, g -> g.breaks(0, 12, 10, 0, 0));
    Due.index("other -1", x, g -> g.breaks(0, 0, 0, -1, 0));
    Due.argument("file 1 is not watched", x, g -> g.breaks(0, 1, 0, 0, 0));
    Due.argument("other 1 is not watched", x, g -> g.breaks(0, 0, 0, 1, 0));
    Due.argument("content 10", x, g -> g.breaks(0, 0, 10, 0, 0));
    Due.argument("content -1", x, g -> g.breaks(0, 0, -1, 0, 0));
    Due.argument("its 10", x, g -> g.breaks(0, 0, 0, 0, 10));
    Due.argument("its -1", x, g -> g.breaks(0, 0, 0, 0, -1));
    Due.eq("one", x.breaks(0, 0, 1, 2, 3), 1);
    int a = Due.queued(x, 0, 0, 0, 1);
    Due.is("one of both is not enough", x.wouldLand(a));
    x.tick(2);
    int b = Due.queued(x, 0, 0, 2, 3);
    Due.not("now both hold", x.wouldLand(b));
    x.drop(b);
    Due.eq("two contents of one file: never", x.breaks(0, 2, 4, 2, 5), 2);
    int c = Due.queued(x, 0, 0, 2, 4);
    Due.is("never", x.wouldLand(c));
    Due.eq("three", x.breaks(0, 2, 4, 2, 4), 3);
    Due.not("always", x.wouldLand(c));
    Due.eq("four, the same once more", x.breaks(0, 2, 4, 2, 4), 4);
    Due.eq("five", x.breaks(0, 2, 6, 0, 6), 5);
    Due.eq("six", x.breaks(0, 2, 7, 0, 1), 6);
    Due.state("a seventh", x, g -> g.breaks(0, 0, 0, 0, 0));
    Due.argument("an argument ahead of the state", x, g -> g.breaks(0, 0, 0, 0, 10));
    int d = Due.queued(x, 0, 3, 2, 7);
    Due.not("the sixth holds", x.wouldLand(d));

    x = new Greentrunk();
    x.test(1, 1, 0);
    x.test(1, 1, 0);
    x.fullRun();
    x.tick(3);
    Due.eq("run", x.runs(0), 1);
    Due.eq("passed", x.verdict(0, 0), PASSED);
    x.breaks(0, 0, 9, 0, 9);
    Due.eq("all of its verdicts are OPEN again", x.verdict(0, 0), OPEN);
    Due.eq("with no runs", x.runs(0), 0);
    Due.eq("the other's stay", x.verdict(1, 0), PASSED);
    Due.eq("and its runs", x.runs(1), 1);
  }

  private static void promise13() {
    Greentrunk x = new Greentrunk();
    Due.index("no test", x, g -> g.outside(0, true));
    x.test(1, 3, 0);
    Due.index("test -1", x, g -> g.outside(-1, false));
    Due.not("it was not", x.outside(0, false));
    x.fullRun();
    x.tick(1);
    Due.eq("a run is on", x.running(0), 0);
    Due.not("it was not", x.outside(0, false));
    x.tick(3);
    Due.eq("nothing came to be: the run told", x.runs(0), 1);
    Due.eq("passed", x.verdict(0, 0), PASSED);
    Due.eq("none failed", x.fullFailed(), 0);
    x.fullRun();
    Due.not("it was not", x.outside(0, true));
    Due.is("it is", x.outside(0, true));
    Due.eq("OPEN again", x.verdict(0, 0), OPEN);
    Due.eq("no runs", x.runs(0), 0);
    x.tick(3);
    Due.eq("failed once, by now", x.runs(0), 1);
    Due.eq("OPEN", x.verdict(0, 0), OPEN);
    x.tick(2);
    Due.eq("2 are allowed", x.verdict(0, 0), FAILED);
    Due.eq("one test has failed", x.fullFailed(), 1);
    Due.is("it was", x.outside(0, false));
    Due.eq("OPEN once more", x.verdict(0, 0), OPEN);
  }

  /** Runs that are on tell nothing any more, but go on, and the machine is warm by them. */
  private static void staleRuns() {
    Greentrunk x = new Greentrunk();
    x.test(1, 3, 0);
    x.come(1);
    x.fullRun();
    x.tick(1);
    x.outside(0, true);
    Due.eq("it goes on", x.running(0), 0);
    x.tick(1);
    Due.eq("wanted once more, as the other tells nothing", x.running(1), 0);
    x.tick(2);
    Due.eq("nothing told", x.runs(0), 0);
    Due.eq("machine 0 is done, machine 1 is on", x.running(0), NONE);
    x.tick(1);
    Due.eq("machine 1 told", x.runs(0), 1);
    Due.eq("machine 0 takes the next one first", x.running(0), 0);
    Due.eq("machine 1 none", x.running(1), NONE);
    x.tick(2);
    Due.eq("2 ticks, as it is warm", x.runs(0), 2);
    Due.eq("all failed", x.fullFailed(), 1);
  }

  private static void promise14() {
    Greentrunk x = new Greentrunk();
    Due.index("no test", x, g -> g.line(0, 3, 0));
    for (int t = 0; t < 4; t++) x.test(1 << 11, 1, 0);
    Due.argument("condition -1", x, g -> g.line(0, -1, 0));
    Due.argument("condition 3", x, g -> g.line(0, 3, 0));
    Due.argument("ALWAYS 1", x, g -> g.line(0, ALWAYS, 1));
    Due.argument("ALWAYS -1", x, g -> g.line(0, ALWAYS, -1));
    Due.argument("TOUCHES 12", x, g -> g.line(0, TOUCHES, 12));
    Due.argument("TOUCHES -1", x, g -> g.line(0, TOUCHES, -1));
    Due.argument("BY 3", x, g -> g.line(0, BY, 3));
    Due.argument("BY -1", x, g -> g.line(0, BY, -1));
    Due.index("test -1", x, g -> g.line(-1, ALWAYS, 0));
    int a = Due.change(x, 0, NONE, 0, 1);
    int b = Due.change(x, 4, NONE, 1, 1);
    Due.eq("none", x.requires(a), 0);
    Due.eq("one", x.line(1, TOUCHES, 0), 1);
    Due.eq("a touches 0", x.requires(a), 0b10);
    Due.eq("b does not", x.requires(b), 0);
    Due.eq("two", x.line(2, BY, 1), 2);
    Due.eq("a is not by team 1", x.requires(a), 0b10);
    Due.eq("b is", x.requires(b), 0b100);
    Due.eq("three", x.line(3, ALWAYS, 0), 3);
    Due.eq("a always", x.requires(a), 0b1010);
    Due.eq("b always", x.requires(b), 0b1100);
    for (int i = 4; i <= 12; i++) Due.eq("the next", x.line(0, TOUCHES, 11), i);
    Due.state("a thirteenth", x, g -> g.line(0, ALWAYS, 0));
    Due.argument("an argument ahead of the state", x, g -> g.line(0, BY, 3));
    Due.eq("those that watch it, too", x.requires(Due.change(x, 3, NONE, 11, 1)), 0b1111);
    x = new Greentrunk();
    x.test(1 << 11, 1, 0);
    x.line(0, BY, 0);
    Due.eq("by team 0", x.requires(Due.change(x, 3, NONE, 1, 1)), 1);
    Due.eq("not by team 2", x.requires(Due.change(x, 5, NONE, 1, 1)), 0);
  }

  private static void promise15() {
    Greentrunk x = new Greentrunk();
    Due.index("no test", x, g -> g.letBack(0));
    x.test(1, 1, 1);
    Due.index("test -1", x, g -> g.letBack(-1));
    Due.not("it was not in", x.letBack(0));
    flakeOnContent8(x);
    Due.eq("flaked once", x.flaked(0), 1);
    Due.not("once is not enough", x.isQuarantined(0));
    x.outside(0, true);
    x.outside(0, false);
    Due.eq("it has flaked still", x.flaked(0), 1);
    x.fullRun();
    x.tick(4);
    Due.eq("flaked twice", x.flaked(0), 2);
    Due.is("in quarantine", x.isQuarantined(0));
    Due.is("it was in", x.letBack(0));
    Due.eq("not flaked since then", x.flaked(0), 0);
    Due.not("not in quarantine", x.isQuarantined(0));
    Due.not("it was not any more", x.letBack(0));
    Due.eq("verdicts stay", x.verdict(0, 1), PASSED);
  }

  /** With 8 in the file 0, test 0 has the draws 0, 9, ..: of the degree 1 it fails first, and passes then. */
  private static void flakeOnContent8(Greentrunk x) {
    Due.queued(x, 0, 0, 0, 8);
    x.tick(2);
    Due.eq("failed, but 2 are allowed", x.runs(0), 1);
    Due.eq("not landed yet", x.commits(), 1);
    x.tick(1);
    Due.eq("passed the second time", x.runs(0), 2);
    Due.eq("landed", x.commits(), 2);
  }

  /** With 7 in the file 0, test 0 has the draws 1, 0, 9, 8: of the degree 2 it fails twice, and passes then. */
  private static void quarantine() {
    Greentrunk x = new Greentrunk();
    x.test(1, 1, 2);
    int red = Due.queued(x, 0, 0, 0, 7);
    Due.not("it would not land by 2", x.wouldLand(red));
    x.tick(5);
    Due.eq("FAILED by 2", x.state(red), Greentrunk.RED);
    flakeOnContent8(x, 2);
    x.outside(0, true);
    x.outside(0, false);
    int late = Due.queued(x, 0, 0, 0, 7);
    x.fullRun();
    Due.not("it would not land yet", x.wouldLand(late));
    x.drop(late);
    x.tick(4);
    Due.is("in quarantine", x.isQuarantined(0));
    int kept = Due.queued(x, 0, 0, 0, 7);
    Due.is("it would land by 5", x.wouldLand(kept));
    x.tick(3);
    Due.eq("failed twice, but 5 are allowed", x.verdict(0, 1), PASSED);
    Due.eq("QUEUED", x.state(kept), Greentrunk.QUEUED);
    x.letBack(0);
    Due.is("one run at least, though 2 failed already", x.wouldLand(kept));
    x.tick(1);
    Due.eq("landed", x.state(kept), Greentrunk.LANDED);
    Due.eq("flaked once since it was let back", x.flaked(0), 1);
  }

  private static void flakeOnContent8(Greentrunk x, int runsAhead) {
    int had = x.runs(0);
    Due.is("runs ahead", had >= runsAhead);
    Due.queued(x, 0, 0, 0, 8);
    x.tick(3);
    Due.eq("two runs more", x.runs(0), had + 2);
    Due.eq("landed", x.commits(), 2);
    Due.eq("flaked", x.flaked(0), 1);
  }

  /** The draws of several files and of a higher test, by hand: c is ((3*11+1+1)*11+8+1)%10007 = 394. */
  private static void draws() {
    // 394 * 7919 = 3120086, by 1000003: 120077, by 10: 7; k = 1: 3224815, 224806, 6; k = 2: 329535, 5
    for (int degree = 0; degree < 10; degree++) {
      Greentrunk x = new Greentrunk();
      x.test(1, 1, 0);
      x.test(1, 1, 0);
      x.test(0b10000001, 1, degree);
      int c = Due.queued(x, 0, 0, 0, 1);
      int d = Due.change(x, 0, c, 7, 8);
      x.queue(d, 0);
      x.drop(c);
      int e = Due.queued(x, 0, 0, 0, 1, 7, 8);
      Due.eq("by the draws 7 and 6, with the degree " + degree, x.wouldLand(e) ? 1 : 0, degree > 7 ? 0 : 1);
    }
    // ((3*11+0+1)*11+8+1)%10007 = 383: 3032977, 32968: 8; then 137697: 7
    Greentrunk x = new Greentrunk();
    x.test(1, 1, 0);
    x.test(1, 1, 0);
    x.test(0b10000001, 1, 8);
    int c = Due.queued(x, 0, 0, 7, 8);
    Due.is("the first draw is 8", x.wouldLand(c));
    x.tick(2);
    Due.eq("one run", x.runs(2), 1);
    Due.eq("landed", x.state(c), Greentrunk.LANDED);
  }

  public static void main(String[] args) {
    promise11();
    promise12();
    promise13();
    staleRuns();
    promise14();
    promise15();
    quarantine();
    draws();
    Due.end("PipelineTest");
  }
}
