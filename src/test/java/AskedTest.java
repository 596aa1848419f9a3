/** Promises 22 to 41: what is asked. */
public final class AskedTest {
  private static final int NONE = Greentrunk.NONE;
  private static final int OPEN = Greentrunk.OPEN, PASSED = Greentrunk.PASSED, FAILED = Greentrunk.FAILED;
  private static final int ALWAYS = Greentrunk.ALWAYS, TOUCHES = Greentrunk.TOUCHES;

  /** Promises 22 and 23: clock and changes. */
  private static void counts() {
    Greentrunk x = new Greentrunk();
    x.tick(1);
    x.tick(7);
    Due.eq("clock", x.clock(), 8);
    Due.eq("changes", x.changes(), 0);
    x.begin(0, NONE);
    x.edit(0, 1);
    Due.eq("what is begun is none yet", x.changes(), 0);
    x.make();
    Due.eq("changes", x.changes(), 1);
    x.queue(0, 0);
    x.tick(1);
    x.revert(1, 0);
    Due.eq("a revert is one", x.changes(), 2);
    Due.eq("clock", x.clock(), 9);
  }

  /** Promise 24: state, and whatever else names a change: 25, 28, 30, 33. */
  private static void namedChanges() {
    Greentrunk x = new Greentrunk();
    int a = Due.change(x, 0, NONE, 0, 1);
    for (int bad : new int[] {-1, 1, 60, Integer.MIN_VALUE, Integer.MAX_VALUE}) {
      Due.index("state", x, g -> g.state(bad));
      Due.index("requires", x, g -> g.requires(bad));
      Due.index("batchOf", x, g -> g.batchOf(bad));
      Due.index("wouldLand", x, g -> g.wouldLand(bad));
      Due.index("landedBy", x, g -> g.landedBy(bad));
    }
    Due.eq("DRAFT", x.state(a), 0);
    Due.eq("in no batch", x.batchOf(a), NONE);
    Due.not("a draft would not land", x.wouldLand(a));
    Due.eq("by none", x.landedBy(a), NONE);
    x.queue(a, 0);
    Due.eq("QUEUED", x.state(a), 1);
    Due.eq("in the first batch", x.batchOf(a), 0);
    Due.is("it would", x.wouldLand(a));
    Due.eq("by none yet", x.landedBy(a), NONE);
    x.tick(1);
    Due.eq("LANDED", x.state(a), 2);
    Due.eq("in none any more", x.batchOf(a), NONE);
    Due.not("false if it is not QUEUED", x.wouldLand(a));
    Due.eq("commit 1", x.landedBy(a), 1);
    int b = Due.queued(x, 0, 0, 1, 1);
    int c = Due.queued(x, 0, 0, 1, 2);
    x.tick(1);
    Due.eq("commit 2", x.landedBy(b), 2);
    Due.eq("CLASHED", x.state(c), 4);
    Due.eq("by none", x.landedBy(c), NONE);
  }

  /** Promise 25: requires, as things are at the call. */
  private static void requires() {
    Greentrunk x = new Greentrunk();
    int a = Due.change(x, 0, NONE, 0, 1, 3, 1);
    Due.eq("no tests", x.requires(a), 0);
    x.test(0b1000, 1, 0);
    Due.eq("one", x.requires(a), 1);
    x.test(0b0110, 1, 0);
    Due.eq("the second watches others", x.requires(a), 1);
    x.queue(a, 0);
    x.line(1, TOUCHES, 3);
    Due.eq("a line", x.requires(a), 3);
    x.tick(1);
    Due.eq("it wants both", x.running(0), 0);
    x.tick(2);
    Due.eq("it has landed", x.landedBy(a), 1);
    x.test(1, 1, 0);
    Due.eq("also when it has landed", x.requires(a), 7);
  }

  /** Promises 26 and 27: queued and queuedAt. */
  private static void order() {
    Greentrunk x = new Greentrunk();
    Due.eq("none", x.queued(), 0);
    Due.index("no place 0", x, g -> g.queuedAt(0));
    int a = Due.queued(x, 0, 1, 0, 1);
    int b = Due.queued(x, 0, 2, 1, 1);
    int c = Due.queued(x, 0, 1, 2, 1);
    Due.change(x, 0, NONE, 3, 1);
    Due.eq("three", x.queued(), 3);
    Due.eq("by priority", x.queuedAt(0), b);
    Due.eq("by time", x.queuedAt(1), a);
    Due.eq("by time", x.queuedAt(2), c);
    Due.index("place 3", x, g -> g.queuedAt(3));
    Due.index("place -1", x, g -> g.queuedAt(-1));
  }

  /** Promise 30: wouldLand. */
  private static void oneByOne() {
    Greentrunk x = new Greentrunk();
    x.test(0b11, 1, 0);
    x.breaks(0, 0, 1, 1, 1);
    int a = Due.queued(x, 0, 0, 0, 1);
    int b = Due.queued(x, 0, 0, 1, 1);
    int c = Due.change(x, 0, b, 2, 1);
    x.queue(c, 0);
    Due.is("a alone", x.wouldLand(a));
    Due.not("b is broken with it", x.wouldLand(b));
    Due.not("c stands on b", x.wouldLand(c));
    int d = Due.queued(x, 0, 1, 0, 5);
    Due.is("d is ahead", x.wouldLand(d));
    Due.not("a does not fit any more", x.wouldLand(a));
    Due.is("b is not broken then", x.wouldLand(b));
    Due.is("nor c", x.wouldLand(c));
    Due.eq("nothing is told", x.runs(0), 0);
    x.outside(0, true);
    Due.not("broken from outside", x.wouldLand(d));
    Due.not("c requires nothing, but stands on b", x.wouldLand(c));
    x.outside(0, false);
    x.line(0, ALWAYS, 0);
    Due.is("c requires it, too", x.wouldLand(c));

    x = new Greentrunk();
    x.test(2, 1, 0);
    int parent = Due.queued(x, 0, 0, 0, 1);
    int child = Due.change(x, 0, parent, 1, 1);
    int draft = Due.change(x, 0, parent, 2, 1);
    x.queue(child, 0);
    x.tick(1);
    Due.eq("its parent is LANDED", x.state(parent), Greentrunk.LANDED);
    Due.is("it would", x.wouldLand(child));
    x.queue(draft, 3);
    Due.is("the other, too", x.wouldLand(draft));

    // file 0 with 7: draws 1, 0; of the degree 1 it passes first; with 8: 0, 9
    x = new Greentrunk();
    x.test(1, 2, 1);
    int e = Due.queued(x, 0, 0, 0, 8);
    Due.is("by the second run", x.wouldLand(e));
    x.tick(3);
    Due.eq("one failed", x.runs(0), 1);
    Due.is("by the next one", x.wouldLand(e));
    x.tick(1);
    Due.eq("it does", x.landedBy(e), 1);

    // file 0 with 7: draws 1, 0: of the degree 2 it fails twice; with 8: 0, 9; with 9: 9
    x = new Greentrunk();
    x.test(1, 1, 2);
    int f = Due.queued(x, 0, 0, 0, 7);
    Due.not("two fail", x.wouldLand(f));
    x.tick(2);
    Due.eq("one failed", x.runs(0), 1);
    Due.not("one more fails", x.wouldLand(f));
    x.tick(1);
    Due.not("by its verdict", x.wouldLand(f));
  }

  /** Promises 31 and 32: commits and content. */
  private static void trunk() {
    Greentrunk x = new Greentrunk();
    Due.index("commit -1", x, g -> g.content(-1, 0));
    Due.index("commit 1", x, g -> g.content(1, 0));
    Due.index("file -1", x, g -> g.content(0, -1));
    Due.index("file 12", x, g -> g.content(0, 12));
    Due.queued(x, 0, 0, 0, 9, 11, 8);
    Due.queued(x, 0, 0, 5, 7);
    x.tick(1);
    Due.eq("commits", x.commits(), 3);
    Due.eq("0", x.content(0, 0), 0);
    Due.eq("9", x.content(1, 0), 9);
    Due.eq("8", x.content(1, 11), 8);
    Due.eq("0 by then", x.content(1, 5), 0);
    Due.eq("7", x.content(2, 5), 7);
    Due.eq("9 still", x.content(2, 0), 9);
    Due.eq("0 in others", x.content(2, 1), 0);
  }

  /** Promises 34 to 37: of tests. */
  private static void tests() {
    Greentrunk x = new Greentrunk();
    Due.index("no test", x, g -> g.verdict(0, 0));
    x.test(1, 1, 1);
    for (int bad : new int[] {-1, 1, 10, Integer.MAX_VALUE}) {
      Due.index("verdict", x, g -> g.verdict(bad, 0));
      Due.index("verdict of a commit", x, g -> g.verdict(0, bad));
      Due.index("runs", x, g -> g.runs(bad));
      Due.index("flaked", x, g -> g.flaked(bad));
      Due.index("isQuarantined", x, g -> g.isQuarantined(bad));
    }
    Due.eq("OPEN", x.verdict(0, 0), OPEN);
    Due.queued(x, 0, 0, 0, 8);
    Due.queued(x, 0, 0, 1, 1);
    x.tick(3);
    Due.eq("both landed", x.commits(), 3);
    Due.eq("OPEN on 0", x.verdict(0, 0), OPEN);
    Due.eq("passed on 1", x.verdict(0, 1), PASSED);
    Due.eq("and on 2, as its file is the same there", x.verdict(0, 2), PASSED);
    Due.eq("two runs", x.runs(0), 2);
    Due.eq("flaked", x.flaked(0), 1);
    Due.not("not in quarantine", x.isQuarantined(0));
    x.revert(1, 0);
    x.tick(2);
    Due.eq("passed on 3", x.verdict(0, 3), PASSED);
    Due.eq("and so on 0, the same contents", x.verdict(0, 0), PASSED);
    Due.eq("three runs", x.runs(0), 3);
    x.outside(0, true);
    Due.eq("no runs any more", x.runs(0), 0);
    Due.eq("flaked still", x.flaked(0), 1);
    x.fullRun();
    x.tick(4);
    Due.eq("FAILED on 3", x.verdict(0, 3), FAILED);
    Due.eq("FAILED on 0", x.verdict(0, 0), FAILED);
    Due.eq("OPEN on 1", x.verdict(0, 1), OPEN);
  }

  /** Promises 38 to 40: blame, running and use. */
  private static void others() {
    Greentrunk x = new Greentrunk();
    for (int bad : new int[] {-1, 8, Integer.MIN_VALUE}) {
      Due.index("blame", x, g -> g.blame(bad));
      Due.index("running", x, g -> g.running(bad));
      Due.index("use", x, g -> g.use(bad));
    }
    Due.index("machine 6", x, g -> g.running(6));
    Due.index("team 3", x, g -> g.use(3));
    Due.eq("machine 5", x.running(5), NONE);
    x.test(1, 2, 0);
    x.breaks(0, 0, 1, 0, 1);
    Due.queued(x, 7, 0, 0, 1);
    Due.eq("nothing runs ahead of a tick", x.running(0), NONE);
    x.tick(1);
    Due.eq("test 0", x.running(0), 0);
    Due.eq("team 1", x.use(1), 2);
    x.tick(2);
    Due.eq("once more, warm", x.use(1), 3);
    x.tick(1);
    Due.eq("on the trunk, of no team", x.use(1), 3);
    Due.eq("test 0", x.running(0), 0);
    x.tick(1);
    Due.eq("blamed", x.blame(7), 1);
    Due.eq("not the others", x.blame(1), 0);
    Due.eq("nothing more", x.running(0), NONE);
  }

  /** Promise 29 is in QueueTest as well, promise 41 there only. */
  private static void broken() {
    Greentrunk x = new Greentrunk();
    Due.not("no queue", x.isBroken());
    x.test(1, 1, 0);
    x.breaks(0, 0, 0, 0, 0);
    Due.queued(x, 0, 0, 1, 1);
    x.line(0, ALWAYS, 0);
    x.tick(3);
    Due.is("the trunk is broken by its contents", x.isBroken());
    int a = Due.queued(x, 0, 3, 0, 1);
    Due.not("what mends it is the first batch now", x.isBroken());
    x.tick(2);
    Due.eq("both land", x.commits(), 3);
    Due.eq("what mends it first", x.landedBy(a), 1);
  }

  public static void main(String[] args) {
    counts();
    namedChanges();
    requires();
    order();
    oneByOne();
    trunk();
    tests();
    others();
    broken();
    Due.end("AskedTest");
  }
}
