/** As much as there can be: 60 changes, 61 commits, 10 tests, 32 changes in batches, 50 wanted runs. */
public final class CrowdTest {
  private static final int NONE = Greentrunk.NONE;
  private static final int OPEN = Greentrunk.OPEN, PASSED = Greentrunk.PASSED;

  /** Each change lands by itself, and each test runs on each tree: some 600 verdicts are kept. */
  private static void verdicts() {
    Greentrunk x = new Greentrunk();
    for (int t = 0; t < 10; t++) x.test(4095, 1, 0);
    x.breaks(9, 11, 9, 11, 9);
    for (int m = 1; m < 6; m++) x.come(m);
    int red = Due.queued(x, 1, 0, 11, 9);
    x.tick(5);
    Due.eq("RED", x.state(red), Greentrunk.RED);
    int runs = x.runs(9);
    for (int i = 1; i < 59; i++) {
      int c = Due.queued(x, 0, 0, i % 11, (i / 11) % 9 + 1);
      Due.eq("it lands", x.tick(4), 1);
      Due.eq("by its own commit", x.landedBy(c), i);
    }
    Due.eq("commits", x.commits(), 59);
    for (int t = 0; t < 10; t++) {
      for (int c = 1; c < 59; c++) Due.eq("verdict " + t + " of " + c, x.verdict(t, c), PASSED);
    }
    Due.eq("the trunk was looked at for the RED one", x.verdict(9, 0), PASSED);
    Due.eq("but not by the others", x.verdict(0, 0), OPEN);
    Due.eq("runs of 9", x.runs(9), runs + 58);
    int last = Due.queued(x, 0, 0, 11, 1);
    x.tick(4);
    Due.eq("60 changes, one of them RED", x.landedBy(last), 59);
    Due.eq("the latest", x.content(59, 11), 1);
    Due.eq("the one ahead of it", x.content(58, 11), 0);
  }

  /** 60 commits behind the first one. */
  private static void commits() {
    Greentrunk x = new Greentrunk();
    for (int i = 0; i < 60; i++) {
      Due.queued(x, 0, 0, i % 12, i / 12 + 1);
      Due.eq("it lands", x.tick(1), 1);
    }
    Due.eq("commits", x.commits(), 61);
    for (int i = 0; i < 60; i++) {
      Due.eq("its content", x.content(i + 1, i % 12), i / 12 + 1);
      Due.eq("ahead of it", x.content(i, i % 12), i / 12);
    }
  }

  /** A stack of 60, each on the one ahead. */
  private static void stack() {
    Greentrunk x = new Greentrunk();
    x.batches(8, 4);
    x.test(4095, 6, 0);
    for (int i = 0; i < 60; i++) {
      int c = Due.change(x, 0, i - 1, 0, i % 9 + 1);
      Due.eq("the last", x.queue(c, i % 4), i);
    }
    for (int i = 0; i < 60; i++) {
      Due.eq("in the order of the stack", x.queuedAt(i), i);
      Due.eq("its batch", x.batchOf(i), i < 32 ? i / 8 : NONE);
      Due.is("it would land", x.wouldLand(i));
    }
    Due.eq("8 land", x.tick(7), 8);
    Due.eq("then others are in the batches", x.batchOf(39), 3);
    Due.eq("all but the lower ones leave", x.drop(8), 52);
  }

  /** Four batches that want ten runs each: those of the last one are of another team, and it is its turn. */
  private static void wanted() {
    Greentrunk x = new Greentrunk();
    x.batches(2, 4);
    for (int t = 0; t < 10; t++) x.test(t < 6 ? 1 : 2, 6, 0);
    for (int m = 1; m < 6; m++) x.come(m);
    for (int i = 0; i < 8; i++) {
      int c = Due.change(x, i == 7 ? 1 : 0, i < 2 ? NONE : i - 2, i % 2, i / 2 + 1);
      x.queue(c, 0);
      Due.eq("its batch", x.batchOf(c), i / 2);
    }
    x.fullRun();
    x.tick(1);
    for (int m = 0; m < 6; m++) Due.eq("the first batch", x.running(m), m);
    x.tick(6);
    for (int m = 0; m < 4; m++) Due.eq("the rest of it", x.running(m), 6 + m);
    Due.eq("team 1 is next", x.running(4), 6);
    Due.eq("and still", x.running(5), 7);
    Due.eq("the use of team 1", x.use(1), 12);
    Due.eq("the use of team 0", x.use(0), 60);
  }

  public static void main(String[] args) {
    verdicts();
    commits();
    stack();
    wanted();
    Due.end("CrowdTest");
  }
}
