/** Promises 16 to 21: the queue, machines and time; with deciding, bisecting, and what is wanted. */
public final class QueueTest {
  private static final int NONE = Greentrunk.NONE;
  private static final int OPEN = Greentrunk.OPEN, PASSED = Greentrunk.PASSED, FAILED = Greentrunk.FAILED;
  private static final int QUEUED = Greentrunk.QUEUED, LANDED = Greentrunk.LANDED, RED = Greentrunk.RED;
  private static final int CLASHED = Greentrunk.CLASHED, DROPPED = Greentrunk.DROPPED, DRAFT = Greentrunk.DRAFT;
  private static final int ALWAYS = Greentrunk.ALWAYS, TOUCHES = Greentrunk.TOUCHES, BY = Greentrunk.BY;

  private static void promise16() {
    Greentrunk x = new Greentrunk();
    Due.argument("size 0", x, g -> g.batches(0, 1));
    Due.argument("size 9", x, g -> g.batches(9, 1));
    Due.argument("depth 0", x, g -> g.batches(1, 0));
    Due.argument("depth 5", x, g -> g.batches(1, 5));
    Due.eq("1 and 1", x.batches(8, 4), 11);
    Due.eq("8 and 4", x.batches(2, 2), 84);
    int a = Due.queued(x, 0, 0, 0, 1);
    int b = Due.queued(x, 0, 0, 0, 2);
    int c = Due.change(x, 0, b, 1, 1);
    x.queue(c, 3);
    int d = Due.queued(x, 0, 0, 2, 1);
    int e = Due.change(x, 0, d, 2, 2);
    x.queue(e, 0);
    int f = Due.queued(x, 0, 0, 3, 1);
    Due.eq("a", x.batchOf(a), 0);
    Due.eq("b does not fit behind a", x.batchOf(b), NONE);
    Due.eq("c stands on b", x.batchOf(c), NONE);
    Due.eq("d is the second", x.batchOf(d), 0);
    Due.eq("its parent is ahead", x.batchOf(e), 1);
    Due.eq("f too", x.batchOf(f), 1);
    x.batches(3, 1);
    Due.eq("its parent is in this batch", x.batchOf(e), 0);
    Due.eq("a depth of 1", x.batchOf(f), NONE);
    x.batches(8, 4);
    Due.eq("all that can", x.batchOf(f), 0);
    x.drop(a);
    Due.eq("b fits now", x.batchOf(b), 0);
    Due.eq("and c", x.batchOf(c), 0);
    x.batches(1, 4);
    Due.eq("b", x.batchOf(b), 0);
    Due.eq("c", x.batchOf(c), 1);
    Due.eq("d", x.batchOf(d), 2);
    Due.eq("e", x.batchOf(e), 3);
    Due.eq("f would be the fifth", x.batchOf(f), NONE);
  }

  private static void promise17and18() {
    Greentrunk x = new Greentrunk();
    Due.index("machine -1", x, g -> g.come(-1));
    Due.index("machine 6", x, g -> g.come(6));
    Due.index("machine -1", x, g -> g.vanish(-1));
    Due.index("machine 6", x, g -> g.vanish(6));
    Due.is("it comes", x.come(5));
    Due.not("it is there", x.come(5));
    Due.not("it ran nothing", x.vanish(5));
    Due.not("it is not there", x.vanish(5));
    Due.is("it comes again", x.come(5));
    x.vanish(0);
    x.test(1, 4, 0);
    x.fullRun();
    x.tick(2);
    Due.eq("machine 5 runs it", x.running(5), 0);
    Due.not("it is there, and goes on", x.come(5));
    Due.eq("it still runs", x.running(5), 0);
    Due.is("it ran something", x.vanish(5));
    Due.eq("lost", x.running(5), NONE);
    Due.not("it is not there", x.vanish(5));
    x.tick(9);
    Due.eq("nobody is there", x.runs(0), 0);
    x.come(3);
    x.tick(4);
    Due.eq("not yet, it begins anew", x.runs(0), 0);
    x.tick(1);
    Due.eq("4 ticks", x.runs(0), 1);
  }

  /** What a machine loses is taken by another that runs nothing. */
  private static void lostRuns() {
    Greentrunk x = new Greentrunk();
    x.test(1, 4, 0);
    x.come(1);
    x.fullRun();
    x.tick(2);
    Due.eq("machine 0 runs it", x.running(0), 0);
    Due.eq("machine 1 runs nothing", x.running(1), NONE);
    Due.is("lost", x.vanish(0));
    x.tick(1);
    Due.eq("machine 1 takes it", x.running(1), 0);
    x.tick(4);
    Due.eq("and tells it", x.runs(0), 1);
  }

  /** A machine is warm by the test that it ran last, unless it vanished or ran another. */
  private static void warmMachines() {
    Greentrunk x = new Greentrunk();
    x.test(1, 3, 0);
    x.outside(0, true);
    x.fullRun();
    x.tick(4);
    Due.eq("3 ticks cold", x.runs(0), 1);
    x.tick(1);
    Due.eq("on", x.runs(0), 1);
    x.tick(1);
    Due.eq("2 ticks warm", x.runs(0), 2);
    x.vanish(0);
    x.come(0);
    x.outside(0, false);
    x.fullRun();
    x.tick(3);
    Due.eq("it forgot", x.runs(0), 0);
    x.tick(1);
    Due.eq("3 ticks cold", x.runs(0), 1);
    x.test(1, 1, 0);
    x.fullRun();
    x.tick(2);
    Due.eq("another test", x.runs(1), 1);
    x.outside(0, true);
    x.fullRun();
    x.tick(3);
    Due.eq("cold by the other", x.runs(0), 0);
    x.tick(1);
    Due.eq("3 ticks", x.runs(0), 1);
    x = new Greentrunk();
    x.test(1, 1, 0);
    x.outside(0, true);
    x.fullRun();
    x.tick(2);
    Due.eq("1 tick cold", x.runs(0), 1);
    x.tick(1);
    Due.eq("1 tick at least", x.runs(0), 2);
  }

  private static void promise19() {
    Greentrunk x = new Greentrunk();
    Due.index("team -1 ahead of the weight", x, g -> g.weigh(-1, 0));
    Due.index("team 3", x, g -> g.weigh(3, 1));
    Due.argument("weight 0", x, g -> g.weigh(0, 0));
    Due.argument("weight 11", x, g -> g.weigh(0, 11));
    Due.eq("1", x.weigh(0, 10), 1);
    Due.eq("10", x.weigh(0, 3), 10);
    Due.eq("another team", x.weigh(2, 3), 1);
  }

  /** A change of each team, each with a test of its own and one behind the other. */
  private static Greentrunk fourBehind(int time) {
    Greentrunk x = new Greentrunk();
    x.batches(1, 4);
    int[] authors = {0, 2, 1, 3};
    for (int i = 0; i < 4; i++) {
      x.test(1 << i, time, 0);
      Due.queued(x, authors[i], 0, i, 1);
    }
    return x;
  }

  private static void fairShares() {
    Greentrunk x = fourBehind(6);
    for (int m = 1; m < 4; m++) x.come(m);
    x.tick(1);
    Due.eq("the first batch first", x.running(0), 0);
    Due.eq("teams 1 and 2 have no use: team 1", x.running(1), 2);
    Due.eq("then team 2", x.running(2), 1);
    Due.eq("then team 0", x.running(3), 3);
    Due.eq("the use of team 0", x.use(0), 12);
    Due.eq("the use of team 1", x.use(1), 6);
    Due.eq("the use of team 2", x.use(2), 6);
    x.vanish(1);
    Due.eq("also of what is lost", x.use(1), 6);
    x.tick(6);
    Due.eq("the first two have landed", x.commits(), 3);
    Due.eq("the lost one is run again, for the first batch", x.running(0), 2);
    Due.eq("and is used again", x.use(1), 12);
    x.tick(6);
    Due.eq("all", x.commits(), 5);

    x = fourBehind(6);
    x.weigh(0, 10);
    x.weigh(2, 3);
    for (int m = 1; m < 4; m++) x.come(m);
    x.tick(1);
    Due.eq("0 of 1 as 0 of 3: the lower number", x.running(1), 2);
    Due.eq("6 of 10 is more than 0 of 3", x.running(2), 1);
    Due.eq("what is left", x.running(3), 3);

    // 7 by 3 is more than 9 by 4, though both are 2 by whole numbers
    x = new Greentrunk();
    x.test(1, 6, 0);
    x.test(1, 1, 0);
    x.test(2, 6, 0);
    x.test(2, 3, 0);
    x.test(1 << 11, 6, 0);
    Due.queued(x, 1, 0, 0, 1);
    Due.queued(x, 2, 0, 1, 1);
    Due.eq("both land", x.tick(17), 2);
    Due.eq("use of team 1", x.use(1), 7);
    Due.eq("use of team 2", x.use(2), 9);
    x.weigh(1, 3);
    x.weigh(2, 4);
    x.batches(1, 3);
    x.come(1);
    Due.queued(x, 0, 0, 11, 1);
    Due.queued(x, 1, 0, 0, 9);
    Due.queued(x, 2, 0, 1, 9);
    x.tick(1);
    Due.eq("the first batch", x.running(0), 4);
    Due.eq("team 2 has the least", x.running(1), 2);
  }

  private static void promise20() {
    Greentrunk x = new Greentrunk();
    Due.is("asked for", x.fullRun());
    Due.not("already", x.fullRun());
    x.tick(1);
    Due.eq("without tests it is over", x.fullFailed(), 0);
    Due.is("asked for again", x.fullRun());
    x.test(1, 2, 0);
    x.test(2, 1, 0);
    x.breaks(1, 1, 0, 1, 0);
    Due.eq("the last one that is over", x.fullFailed(), 0);
    x.tick(1);
    Due.eq("by rising numbers", x.running(0), 0);
    x.tick(2);
    Due.eq("then test 1", x.running(0), 1);
    x.tick(1);
    Due.eq("failed once", x.fullFailed(), 0);
    Due.not("still asked for", x.fullRun());
    x.tick(1);
    Due.eq("one has FAILED", x.fullFailed(), 1);
    Due.is("it is over", x.fullRun());
    x.tick(1);
    Due.eq("all verdicts are there", x.fullFailed(), 1);
    Due.eq("no more runs", x.runs(1), 2);

    x = new Greentrunk();
    x.test(1, 2, 0);
    x.test(2, 2, 0);
    x.fullRun();
    int a = Due.queued(x, 0, 0, 1, 1);
    x.tick(1);
    Due.eq("the queue is ahead of a full run", x.running(0), 1);
    x.tick(2);
    Due.eq("landed", x.state(a), LANDED);
    Due.eq("then the full run, of the new trunk", x.running(0), 0);
    x.tick(2);
    Due.eq("over", x.fullFailed(), 0);
    Due.eq("test 1 was not run for it, as it had its verdict", x.runs(1), 1);
    Due.eq("no team uses it", x.use(0) + x.use(1) + x.use(2), 2);
  }

  private static void promise21() {
    Greentrunk x = new Greentrunk();
    Due.argument("0", x, g -> g.tick(0));
    Due.argument("-1", x, g -> g.tick(-1));
    Due.argument("31", x, g -> g.tick(31));
    Due.eq("nothing to land", x.tick(30), 0);
    Due.eq("30", x.clock(), 30);
    int a = Due.change(x, 0, NONE, 0, 1);
    int b = Due.change(x, 0, NONE, 0, 2);
    int c = Due.change(x, 0, b, 1, 1);
    int d = Due.change(x, 0, c, 2, 1);
    int e = Due.queued(x, 0, 0, 5, 1);
    x.queue(a, 0);
    x.queue(b, 0);
    x.queue(c, 0);
    Due.eq("nothing is decided without a tick", x.state(e), QUEUED);
    Due.eq("two land", x.tick(1), 2);
    Due.eq("each by its own", x.commits(), 3);
    Due.eq("b fits no more", x.state(b), CLASHED);
    Due.eq("c stands on it", x.state(c), DROPPED);
    Due.eq("d is a draft", x.state(d), DRAFT);
    Due.eq("nothing is left", x.queued(), 0);
    Due.eq("nothing lands", x.tick(1), 0);
    Due.eq("32", x.clock(), 32);
  }

  /** Tests and batches: two land together, by what both require, on the tree behind both. */
  private static void landing() {
    Greentrunk x = new Greentrunk();
    x.test(1, 2, 0);
    x.test(2, 1, 0);
    x.test(4, 1, 0);
    x.breaks(2, 2, 0, 2, 0);
    x.batches(2, 1);
    int a = Due.queued(x, 0, 0, 0, 1);
    int b = Due.queued(x, 1, 0, 1, 1);
    x.tick(1);
    Due.eq("test 0", x.running(0), 0);
    x.tick(2);
    Due.eq("test 1", x.running(0), 1);
    Due.eq("not landed", x.commits(), 1);
    Due.eq("both land", x.tick(1), 2);
    Due.eq("in one commit", x.commits(), 2);
    Due.eq("a", x.landedBy(a), 1);
    Due.eq("b", x.landedBy(b), 1);
    Due.eq("test 2 is broken, but not required", x.verdict(2, 1), OPEN);
    Due.eq("the use of team 0", x.use(0), 2);
    Due.eq("the use of team 1", x.use(1), 1);
    int c = Due.queued(x, 2, 0, 2, 1);
    x.line(0, ALWAYS, 0);
    x.line(1, BY, 2);
    Due.eq("what c requires", x.requires(c), 7);
    x.tick(1);
    Due.eq("0 and 1 have their verdicts for these contents", x.running(0), 2);
    Due.eq("c lands", x.tick(1), 1);
  }

  /** A test that two changes of a batch require is of the team of the first one in the order of the batch. */
  private static void teamOfWanted() {
    Greentrunk x = new Greentrunk();
    x.batches(2, 1);
    x.test(3, 3, 0);
    Due.queued(x, 0, 0, 0, 1);
    Due.queued(x, 1, 1, 1, 1);
    x.tick(1);
    Due.eq("team 1 is first by its priority", x.use(1), 3);
    Due.eq("team 0", x.use(0), 0);
  }

  /** The speculation: the second batch is run ahead, and what stands ahead or is on is not run again. */
  private static void speculation() {
    Greentrunk x = new Greentrunk();
    x.batches(1, 2);
    x.test(1, 2, 0);
    x.test(4, 6, 0);
    for (int m = 1; m < 4; m++) x.come(m);
    Due.queued(x, 0, 0, 0, 1);
    Due.queued(x, 0, 0, 1, 1, 2, 1);
    x.line(0, TOUCHES, 1);
    x.tick(1);
    Due.eq("for the first", x.running(0), 0);
    Due.eq("for the second, which wants test 0 for the same contents", x.running(1), 1);
    Due.eq("no more", x.running(2), NONE);
    Due.eq("the first lands", x.tick(2), 1);
    Due.eq("the second is on", x.tick(3), 0);
    Due.eq("the second lands", x.tick(1), 1);
    Due.eq("one run", x.runs(0), 1);
    Due.eq("one run", x.runs(1), 1);
    Due.eq("7 ticks", x.clock(), 7);
  }

  /** Four changes of which the third is bad, all watched by one test. */
  private static void bisecting() {
    Greentrunk x = new Greentrunk();
    x.batches(4, 2);
    x.test(0b11111, 1, 0);
    x.breaks(0, 2, 1, 2, 1);
    x.come(1);
    for (int i = 0; i < 4; i++) Due.queued(x, i == 2 ? 7 : 3, 0, i, 1);
    int later = Due.queued(x, 0, 0, 4, 1);
    x.tick(2);
    Due.eq("failed once; the second batch is on as well", x.runs(0), 2);
    x.tick(1);
    Due.eq("FAILED", x.runs(0), 4);
    Due.not("bisected, not broken", x.isBroken());
    Due.eq("only one is looked at", x.running(1), NONE);
    Due.eq("it is run", x.running(0), 0);
    x.tick(1);
    Due.eq("two of them passed", x.runs(0), 5);
    x.tick(2);
    Due.eq("three of them FAILED: the third is RED", x.state(2), RED);
    Due.eq("blamed", x.blame(7), 1);
    Due.eq("others not", x.blame(3), 0);
    Due.eq("runs", x.runs(0), 7);
    Due.eq("the others are a batch now, with the later one", x.batchOf(later), 0);
    Due.eq("all four land", x.tick(1), 4);
    Due.eq("of no team: team 0 has a run more by each batch only", x.use(0), 2 + 2 + 1);
    Due.eq("commits", x.commits(), 2);
  }

  /** Eight changes: which beginnings are looked at, if the bad one is behind the middle. */
  private static void bisectingEight() {
    // 4 passed, 6 FAILED, 5 passed; 4 passed, 6 passed, 7 FAILED; 4 FAILED, 2 passed, 3 FAILED
    int[][] runsByBad = {{5, 2 + 1 + 2 + 1}, {6, 2 + 1 + 1 + 2}, {7, 2 + 1 + 1 + 1}, {2, 2 + 2 + 1 + 2}, {0, 2 + 2 + 2 + 2 + 1}};
    for (int[] one : runsByBad) {
      Greentrunk x = new Greentrunk();
      x.batches(8, 1);
      x.test(4095, 1, 0);
      x.breaks(0, one[0], 1, one[0], 1);
      for (int i = 0; i < 8; i++) Due.queued(x, 5, 0, i, 1);
      x.tick(one[1]);
      Due.eq("not yet", x.state(one[0]), QUEUED);
      x.tick(1);
      Due.eq("RED is " + one[0], x.state(one[0]), RED);
      Due.eq("runs", x.runs(0), one[1]);
      // without the last one the rest is a beginning whose verdict is known
      Due.eq("the rest lands", x.tick(1), one[0] == 7 ? 0 : 7);
      Due.eq("in one commit", x.commits(), 2);
    }
  }

  /** The weights of authors that were blamed move the middle. */
  private static void blames() {
    Greentrunk x = new Greentrunk();
    x.batches(4, 1);
    x.test(0b1111, 1, 0);
    x.breaks(0, 3, 1, 3, 1);
    Due.queued(x, 6, 0, 3, 1);
    x.tick(3);
    Due.eq("FAILED", x.runs(0), 2);
    Due.eq("the trunk is looked at ahead of a blame", x.blame(6), 0);
    x.tick(1);
    Due.eq("it has passed there", x.blame(6), 1);
    Due.eq("runs", x.runs(0), 3);
    for (int i = 0; i < 4; i++) Due.queued(x, i == 3 ? 6 : 1, 0, i, 1);
    x.tick(4);
    Due.eq("weights 1, 1, 1, 2: the beginning of 3 is the next one, then all is known", x.blame(6), 2);
    Due.eq("runs", x.runs(0), 6);
    Due.eq("the three others land by the verdict that is known", x.commits(), 2);

    // weights 1, 1, 3: none is half; the beginning of 2 is the next one
    x.breaks(0, 1, 3, 1, 3);
    for (int f = 0; f < 3; f++) Due.queued(x, f == 2 ? 6 : 1, 0, f, f + 2);
    x.tick(3);
    Due.eq("FAILED", x.runs(0), 2);
    x.tick(2);
    Due.eq("the beginning of 2 FAILED", x.runs(0), 4);
    x.tick(1);
    Due.eq("the beginning of 1 passed", x.runs(0), 5);
    Due.eq("the second is RED", x.blame(1), 1);
    Due.eq("the last is not", x.blame(6), 2);
    Due.eq("the others land", x.tick(1), 2);
  }

  /** Nobody is blamed for what broke from outside. */
  private static void outsideBreaks() {
    Greentrunk x = new Greentrunk();
    x.batches(2, 2);
    x.test(1, 1, 0);
    x.test(1 << 5, 1, 0);
    x.line(1, TOUCHES, 1);
    x.outside(1, true);
    int a = Due.queued(x, 0, 0, 0, 1);
    int b = Due.queued(x, 0, 0, 1, 1);
    int c = Due.queued(x, 0, 0, 2, 1);
    x.tick(3);
    Due.not("test 1 failed once", x.isBroken());
    x.tick(1);
    Due.is("the beginning of 1 is good, and test 1 FAILED for the same contents there", x.isBroken());
    Due.eq("nobody is blamed", x.blame(0), 0);
    Due.eq("nothing lands", x.commits(), 1);
    Due.eq("nor runs", x.running(0), NONE);
    x.fullRun();
    x.tick(2);
    Due.eq("but for a full run", x.runs(0), 2);
    Due.eq("one has FAILED", x.fullFailed(), 1);
    x.outside(1, false);
    Due.not("mended", x.isBroken());
    x.tick(1);
    Due.eq("wanted again", x.running(0), 1);
    Due.eq("all land", x.tick(1), 3);
    for (int i : new int[] {a, b, c}) Due.eq("LANDED", x.state(i), LANDED);

    x = new Greentrunk();
    x.test(1, 1, 0);
    int d = Due.queued(x, 0, 0, 0, 1);
    x.outside(0, true);
    x.tick(3);
    Due.not("the trunk is OPEN", x.isBroken());
    x.tick(1);
    Due.not("the trunk failed once", x.isBroken());
    x.tick(1);
    Due.is("the trunk has FAILED, too", x.isBroken());
    Due.eq("QUEUED", x.state(d), QUEUED);
    x.drop(d);
    Due.not("without a batch nothing is known", x.isBroken());
  }

  /** A part of what FAILED has FAILED behind the good one as well: the other part is enough for a blame. */
  private static void partlyOutside() {
    Greentrunk x = new Greentrunk();
    x.test(1, 1, 0);
    x.test(2, 1, 0);
    x.line(0, ALWAYS, 0);
    x.outside(0, true);
    x.breaks(1, 1, 1, 1, 1);
    x.come(1);
    int a = Due.queued(x, 4, 0, 1, 1);
    x.tick(3);
    Due.eq("both FAILED", x.runs(0) + x.runs(1), 4);
    Due.eq("test 0 has FAILED on the trunk, test 1 is wanted there", x.running(0), 1);
    Due.not("not broken: test 1 is OPEN there", x.isBroken());
    x.tick(1);
    Due.eq("test 1 has passed there", x.state(a), RED);
    Due.eq("blamed", x.blame(4), 1);
  }

  /** A stack: if the parent is RED, its children are DROPPED; a clash behind a landing is found at once. */
  private static void stacks() {
    Greentrunk x = new Greentrunk();
    x.test(1, 1, 0);
    x.breaks(0, 0, 1, 0, 1);
    int a = Due.queued(x, 0, 0, 0, 1);
    int b = Due.change(x, 1, a, 1, 1);
    int c = Due.change(x, 1, b, 2, 1);
    x.queue(b, 0);
    x.queue(c, 0);
    x.tick(4);
    Due.eq("RED", x.state(a), RED);
    Due.eq("DROPPED", x.state(b), DROPPED);
    Due.eq("DROPPED", x.state(c), DROPPED);
    Due.eq("nothing landed", x.commits(), 1);
  }

  /** Two runs in one tick: the lower machine tells first, and the quarantine holds for the other by then. */
  private static void tellingInOrder() {
    // content 7 of file 0: draws 1, 0, 9; content 8: 0, 9; degree 2
    Greentrunk x = new Greentrunk();
    x.test(1, 1, 2);
    Due.queued(x, 0, 0, 0, 8);
    x.tick(3);
    Due.eq("flaked once", x.flaked(0), 1);
    x.outside(0, true);
    x.outside(0, false);
    x.come(1);
    x.batches(1, 2);
    x.revert(1, 0);
    x.tick(2);
    Due.eq("the trunk is 0 again", x.content(2, 0), 0);
    int eight = Due.queued(x, 0, 3, 0, 8);
    int seven = Due.change(x, 0, eight, 0, 7);
    x.queue(seven, 0);
    x.tick(1);
    Due.eq("8 on machine 0", x.running(0), 0);
    Due.eq("7 on machine 1", x.running(1), 0);
    x.tick(2);
    Due.eq("8 passed by the second run", x.state(eight), LANDED);
    Due.is("in quarantine", x.isQuarantined(0));
    Due.eq("7 failed twice, but 5 are allowed by then", x.state(seven), QUEUED);
    Due.eq("7 passes by the third run", x.tick(1), 1);
  }

  public static void main(String[] args) {
    promise16();
    promise17and18();
    lostRuns();
    warmMachines();
    promise19();
    fairShares();
    promise20();
    promise21();
    landing();
    teamOfWanted();
    speculation();
    bisecting();
    bisectingEight();
    blames();
    outsideBreaks();
    partlyOutside();
    stacks();
    tellingInOrder();
    Due.eq("FAILED is 2, PASSED 1", 10 * FAILED + PASSED, 21);
    Due.end("QueueTest");
  }
}
