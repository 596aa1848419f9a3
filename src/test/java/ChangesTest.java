/** Promises 1 to 10: a new object, and changes. */
public final class ChangesTest {
  private static final int NONE = Greentrunk.NONE;
  private static final int DRAFT = Greentrunk.DRAFT, QUEUED = Greentrunk.QUEUED, LANDED = Greentrunk.LANDED;
  private static final int RED = Greentrunk.RED, CLASHED = Greentrunk.CLASHED, DROPPED = Greentrunk.DROPPED;

  private static void promise1() {
    Greentrunk x = new Greentrunk();
    Due.eq("commits of a new object", x.commits(), 1);
    for (int f = 0; f < 12; f++) Due.eq("content of commit 0", x.content(0, f), 0);
    Due.eq("changes", x.changes(), 0);
    Due.eq("queued", x.queued(), 0);
    Due.eq("clock", x.clock(), 0);
    Due.eq("fullFailed", x.fullFailed(), NONE);
    Due.eq("shown", x.shown(), 0);
    Due.not("isBroken", x.isBroken());
    for (int a = 0; a < 8; a++) Due.eq("blame", x.blame(a), 0);
    for (int m = 0; m < 6; m++) Due.eq("running", x.running(m), NONE);
    Due.index("there is no test", x, g -> g.runs(0));
    Due.index("there is no change", x, g -> g.state(0));
    Due.eq("batches of 1, a depth of 1", x.batches(2, 3), 11);
    for (int t = 0; t < 3; t++) {
      Due.eq("use", x.use(t), 0);
      Due.eq("weight of 1", x.weigh(t, 5), 1);
    }
    for (int f = 0; f < 12; f++) Due.eq("no owner", x.own(f, NONE), NONE);
    Due.not("machine 0 is there", x.come(0));
    for (int m = 1; m < 6; m++) Due.is("machine is not there", x.come(m));
    Due.is("no full run is asked for", x.fullRun());
    Due.eq("no secrets", x.secret(0, 0, 2), 1);
  }

  private static void promise2() {
    Greentrunk x = new Greentrunk();
    Due.index("author -1", x, g -> g.begin(-1, NONE));
    Due.index("author 8", x, g -> g.begin(8, NONE));
    Due.index("parent 0 of none", x, g -> g.begin(0, 0));
    Due.index("parent -2", x, g -> g.begin(0, -2));
    Due.index("parent far", x, g -> g.begin(7, Integer.MAX_VALUE));
    Due.not("nothing was begun", x.begin(0, NONE));
    x.edit(0, 1);
    Due.is("one was begun", x.begin(7, NONE));
    Due.eq("the new one has no edits", x.edit(3, 1), 1);
    int a = x.make();
    Due.not("it was made", x.begin(1, a));
    x.edit(0, 1);
    int b = x.make();
    x.queue(a, 0);
    Due.not("a QUEUED parent", x.begin(1, a));
    Due.is("a DRAFT parent", x.begin(1, b));
    x.drop(a);
    Due.state("a DROPPED parent", x, g -> g.begin(1, a));
    Due.index("author ahead of the parent's state", x, g -> g.begin(8, a));
    int c = Due.queued(x, 0, 0, 5, 5);
    x.tick(1);
    Due.eq("landed", x.state(c), LANDED);
    Due.not("that one was made", x.begin(1, NONE));
    Due.state("a LANDED parent", x, g -> g.begin(1, c));
    Due.is("what was begun is still there", x.begin(1, NONE));
  }

  private static void promise3() {
    Greentrunk x = new Greentrunk();
    Due.state("nothing begun", x, g -> g.edit(0, 1));
    Due.index("file first", x, g -> g.edit(12, 10));
    Due.argument("content ahead of state", x, g -> g.edit(0, 10));
    x.begin(0, NONE);
    Due.index("file -1", x, g -> g.edit(-1, 1));
    Due.index("file 12", x, g -> g.edit(12, 1));
    Due.argument("content -1", x, g -> g.edit(0, -1));
    Due.argument("content 10", x, g -> g.edit(11, 10));
    Due.eq("one", x.edit(0, 1), 1);
    Due.eq("in its place", x.edit(0, 9), 1);
    Due.eq("two", x.edit(11, 9), 2);
    Due.eq("three", x.edit(5, 0), 3);
    Due.eq("in its place", x.edit(5, 4), 3);
    Due.eq("four", x.edit(6, 2), 4);
    Due.state("a fifth", x, g -> g.edit(7, 1));
    Due.eq("in its place, of four", x.edit(6, 3), 4);
    int c = x.make();
    Due.state("it was made", x, g -> g.edit(0, 1));
    x.queue(c, 0);
    x.tick(1);
    Due.eq("the later one", x.content(1, 0), 9);
    Due.eq("file 5", x.content(1, 5), 4);
    Due.eq("file 6", x.content(1, 6), 3);
    Due.eq("file 7", x.content(1, 7), 0);
    Due.eq("file 11", x.content(1, 11), 9);
  }

  private static void promise4() {
    Greentrunk x = new Greentrunk();
    Due.state("nothing begun", x, g -> g.make());
    x.begin(0, NONE);
    Due.state("no edits", x, g -> g.make());
    x.edit(0, 0);
    Due.state("none against its base", x, g -> g.make());
    x.edit(0, 1);
    Due.eq("the first", x.make(), 0);
    Due.eq("a draft", x.state(0), DRAFT);
    Due.state("made already", x, g -> g.make());
    x.begin(0, 0);
    x.edit(0, 1);
    Due.state("none against its parent's tree", x, g -> g.make());
    x.edit(0, 0);
    Due.eq("another than its parent's", x.make(), 1);
    x.begin(0, 0);
    x.edit(3, 3);
    x.queue(0, 0);
    x.drop(0);
    Due.state("its parent is DROPPED by now", x, g -> g.make());
    Due.is("still begun", x.begin(2, NONE));
    x.edit(4, 4);
    int c = Due.queued(new Greentrunk(), 0, 0, 1, 1);
    Due.eq("another object has its own", c, 0);
    Due.eq("the third", x.make(), 2);
    x.begin(0, NONE);
    x.edit(4, 4);
    x.queue(2, 0);
    x.tick(1);
    Due.state("the trunk is another by now", x, g -> g.make());
    x.edit(4, 0);
    Due.eq("its base is that of now", x.make(), 3);
    for (int i = 4; i < 60; i++) Due.eq("the next", Due.change(x, 0, NONE, 0, 1), i);
    x.begin(0, NONE);
    x.edit(0, 1);
    Due.state("60 changes", x, g -> g.make());
    Due.eq("60", x.changes(), 60);
  }

  private static void promise5() {
    Greentrunk x = new Greentrunk();
    Due.index("no change", x, g -> g.rebase(0));
    int parent = Due.change(x, 0, NONE, 0, 1, 1, 1);
    int child = Due.change(x, 0, parent, 0, 2, 2, 2);
    int other = Due.change(x, 0, NONE, 0, 3, 4, 4);
    Due.eq("nothing is another", x.rebase(child), 0);
    x.queue(other, 0);
    Due.state("QUEUED", x, g -> g.rebase(other));
    x.tick(1);
    Due.state("LANDED", x, g -> g.rebase(other));
    Due.eq("file 0 is another", x.rebase(parent), 1);
    Due.eq("its parent's tree has file 4, which is not its own", x.rebase(child), 0);
    x.queue(parent, 0);
    x.queue(child, 0);
    Due.eq("behind its parent", x.queuedAt(1), child);
    x.drop(child);
    int grand = Due.change(x, 1, parent, 1, 5);
    x.tick(1);
    Due.eq("the parent has landed", x.state(parent), LANDED);
    Due.eq("the parent's content is the trunk's", x.rebase(grand), 0);
    x.queue(grand, 0);
    Due.eq("it lands", x.tick(1), 1);

    x = new Greentrunk();
    parent = Due.change(x, 0, NONE, 0, 1);
    child = Due.change(x, 0, parent, 0, 2, 1, 1);
    int idle = Due.change(x, 0, parent, 0, 0);
    int deep = Due.change(x, 0, child, 0, 3);
    x.queue(parent, 0);
    x.drop(parent);
    Due.state("an edit would be none", x, g -> g.rebase(idle));
    Due.eq("on the trunk: file 0 is 0 again", x.rebase(child), 1);
    Due.eq("no parent any more", x.queue(child, 0), 0);
    Due.eq("on its parent, which is QUEUED", x.rebase(deep), 0);
    Due.eq("still its child", x.queue(deep, 3), 1);
    Due.state("idle has kept its parent, which is DROPPED", x, g -> g.queue(idle, 0));
  }

  private static void promise6() {
    Greentrunk x = new Greentrunk();
    Due.index("file -1", x, g -> g.own(-1, 0));
    Due.index("file 12", x, g -> g.own(12, 0));
    Due.index("team 3", x, g -> g.own(0, 3));
    Due.index("team -2", x, g -> g.own(0, -2));
    Due.eq("none", x.own(0, 2), NONE);
    Due.eq("2", x.own(0, 0), 2);
    Due.eq("0", x.own(0, NONE), 0);
    Due.eq("none again", x.own(0, NONE), NONE);
    Due.eq("each file its own", x.own(11, 1), NONE);
    Due.eq("1", x.own(11, 1), 1);
  }

  private static void promise7() {
    Greentrunk x = new Greentrunk();
    Due.index("no change", x, g -> g.approve(0, 0));
    int c = Due.change(x, 4, NONE, 0, 1, 1, 1);
    Due.index("team -1", x, g -> g.approve(c, -1));
    Due.index("team 3", x, g -> g.approve(c, 3));
    x.own(0, 1);
    Due.is("the author's own team", x.approve(c, 0));
    x.own(1, 2);
    Due.not("team 2 has not", x.approve(c, 1));
    x.own(3, 0);
    Due.is("file 3 is not its", x.approve(c, 2));
    x.own(1, 0);
    Due.is("team 0 told so first of all", x.approve(c, 2));
    int d = Due.change(x, 5, NONE, 0, 1);
    Due.not("approvals are each change's own", x.approve(d, 0));
    x.own(0, NONE);
    Due.is("no owner", x.approve(d, 0));
    x.queue(c, 0);
    x.tick(1);
    Due.is("also when it is LANDED", x.approve(c, 0));
  }

  private static void promise8() {
    Greentrunk x = new Greentrunk();
    Due.index("no change", x, g -> g.queue(0, 4));
    int a = Due.change(x, 0, NONE, 0, 1);
    int b = Due.change(x, 1, NONE, 1, 1);
    int c = Due.change(x, 2, a, 2, 1);
    Due.argument("priority -1", x, g -> g.queue(a, -1));
    Due.argument("priority 4", x, g -> g.queue(a, 4));
    Due.state("its parent is DRAFT", x, g -> g.queue(c, 0));
    x.own(0, 1);
    Due.state("not approved", x, g -> g.queue(a, 0));
    x.approve(a, 1);
    Due.eq("first", x.queue(a, 0), 0);
    Due.eq("QUEUED", x.state(a), QUEUED);
    Due.state("QUEUED already", x, g -> g.queue(a, 0));
    Due.argument("priority ahead of state", x, g -> g.queue(a, 4));
    Due.eq("greater priority, but behind its parent", x.queue(c, 3), 1);
    Due.eq("priority 1 is ahead of both", x.queue(b, 1), 0);
    int d = Due.change(x, 0, NONE, 3, 1);
    Due.eq("the same priority, later", x.queue(d, 1), 1);
    int e = Due.change(x, 0, c, 4, 1);
    Due.eq("behind its parent", x.queue(e, 3), 4);
    int f = Due.change(x, 0, a, 5, 1);
    Due.eq("behind c and e, which were queued earlier", x.queue(f, 3), 5);
    x.tick(1);
    Due.eq("all landed one behind the other, without tests", x.commits(), 7);
    Due.state("LANDED", x, g -> g.queue(a, 0));

    x = new Greentrunk();
    int p = Due.change(x, 0, NONE, 0, 1);
    int q = Due.change(x, 0, p, 1, 1);
    x.queue(p, 0);
    x.tick(1);
    Due.eq("its parent is LANDED", x.queue(q, 0), 0);
    int r = Due.change(x, 0, NONE, 5, 1);
    int s = Due.change(x, 0, r, 6, 1);
    x.queue(r, 0);
    x.drop(r);
    Due.state("its parent is DROPPED", x, g -> g.queue(s, 0));
    Due.state("DROPPED", x, g -> g.queue(r, 0));
  }

  private static void promise9() {
    Greentrunk x = new Greentrunk();
    Due.index("no change", x, g -> g.drop(0));
    int a = Due.change(x, 0, NONE, 0, 1);
    int b = Due.change(x, 0, a, 1, 1);
    int c = Due.change(x, 0, b, 2, 1);
    int d = Due.change(x, 0, a, 3, 1);
    int e = Due.change(x, 0, a, 4, 1);
    int f = Due.queued(x, 0, 0, 5, 1);
    Due.state("DRAFT", x, g -> g.drop(a));
    x.queue(a, 0);
    x.queue(b, 0);
    x.queue(c, 0);
    x.queue(d, 0);
    Due.eq("none stands on d", x.drop(d), 1);
    Due.eq("a, b and c", x.drop(a), 3);
    for (int i : new int[] {a, b, c, d}) Due.eq("DROPPED", x.state(i), DROPPED);
    Due.eq("a draft stays one", x.state(e), DRAFT);
    Due.eq("the other stays", x.queuedAt(0), f);
    Due.eq("one is left", x.queued(), 1);
    Due.state("DROPPED already", x, g -> g.drop(a));
  }

  private static void promise10() {
    Greentrunk x = new Greentrunk();
    Due.index("commit 1 of 1", x, g -> g.revert(1, 0));
    Due.index("commit -1", x, g -> g.revert(-1, 0));
    Due.index("author ahead of commit 0", x, g -> g.revert(0, 8));
    Due.argument("commit 0", x, g -> g.revert(0, 0));
    x.batches(2, 1);
    int a = Due.queued(x, 0, 0, 0, 1, 1, 1, 2, 1);
    int b = Due.queued(x, 0, 0, 3, 1, 4, 1, 5, 1);
    x.tick(1);
    Due.eq("both in one commit", x.landedBy(b), 1);
    int high = Due.queued(x, 0, 3, 11, 1);
    x.own(0, 1);
    int r = x.revert(1, 5);
    Due.eq("its number", r, 3);
    Due.eq("QUEUED", x.state(r), QUEUED);
    Due.eq("ahead of the others, and not approved", x.queuedAt(0), r);
    Due.eq("then the other", x.queuedAt(1), high);
    Due.not("not approved", x.approve(r, 0));
    int child = Due.change(x, 1, r, 3, 7);
    Due.eq("a change on it", x.queue(child, 0), 2);
    x.batches(1, 1);
    Due.eq("all land", x.tick(1), 3);
    for (int f = 0; f < 6; f++) Due.eq("six files are 0 again", x.content(x.landedBy(r), f), 0);
    Due.state("file 3 has another content now", x, g -> g.revert(1, 0));
    Due.state("file 0 has another content now", x, g -> g.revert(1, 0));
    int again = x.revert(x.landedBy(high), 0);
    int second = x.revert(x.landedBy(child), 0);
    Due.eq("the earlier revert first", x.queuedAt(0), again);
    Due.eq("then the later one", x.queuedAt(1), second);
    x.tick(1);
    Due.eq("11 is 0 again", x.content(x.commits() - 1, 11), 0);
    Due.eq("3 is 0 again", x.content(x.commits() - 1, 3), 0);

    emptyRevert();
    manyReverts();
  }

  /** A batch of a change and one that takes it back changes nothing. */
  private static void emptyRevert() {
    Greentrunk x = new Greentrunk();
    x.batches(2, 1);
    int a = Due.change(x, 0, NONE, 0, 1);
    int b = Due.change(x, 0, a, 0, 0);
    x.queue(a, 0);
    x.queue(b, 0);
    Due.eq("both land", x.tick(1), 2);
    int c = Due.queued(x, 0, 0, 0, 4);
    x.tick(1);
    x.test(4095, 1, 0);
    int r = x.revert(1, 2);
    Due.eq("it has no files, and requires nothing", x.requires(r), 0);
    Due.eq("it lands", x.tick(1), 1);
    Due.eq("and changes nothing", x.content(x.landedBy(r), 0), 4);
    Due.eq("c stays", x.state(c), LANDED);
  }

  private static void manyReverts() {
    Greentrunk x = new Greentrunk();
    Due.queued(x, 0, 0, 0, 1);
    x.tick(1);
    for (int i = 1; i < 60; i++) Due.eq("reverts", x.revert(1, i % 8), i);
    Due.state("60 changes", x, g -> g.revert(1, 0));
    Due.eq("one lands", x.tick(2), 1);
    int clashed = 0;
    for (int i = 2; i < 60; i++) if (x.state(i) == CLASHED) clashed++;
    Due.eq("all others clash", clashed, 58);
    Due.eq("none is RED", RED, 3);
  }

  public static void main(String[] args) {
    promise1();
    promise2();
    promise3();
    promise4();
    promise5();
    promise6();
    promise7();
    promise8();
    promise9();
    promise10();
    Due.end("ChangesTest");
  }
}
