/** The boundaries that promises 1 to 10 name: a new object, and changes. */
public final class EdgeChangesTest {
  private static final int NONE = Edge.NONE;
  private static final int DRAFT = Edge.DRAFT, QUEUED = Edge.QUEUED, LANDED = Edge.LANDED;
  private static final int RED = Edge.RED, CLASHED = Edge.CLASHED, DROPPED = Edge.DROPPED;
  private static final int[] STATES = {DRAFT, QUEUED, LANDED, RED, CLASHED, DROPPED};

  // ---- promise 1

  private static void newObject() {
    String where = "Promise 1, a new object";
    Edge.test(where, "a trunk with the commit 0", () -> {
      Greentrunk x = new Greentrunk();
      Due.eq("commits", x.commits(), 1);
      for (int f = 0; f < 12; f++) Due.eq("content of file " + f, x.content(0, f), 0);
      Due.index("there is no commit 1", x, g -> g.content(1, 0));
    });
    Edge.test(where, "no change, nothing begun, an empty queue", () -> {
      Greentrunk x = new Greentrunk();
      Due.eq("changes", x.changes(), 0);
      Due.eq("queued", x.queued(), 0);
      Due.index("queuedAt(0)", x, g -> g.queuedAt(0));
      Due.index("state(0)", x, g -> g.state(0));
      Due.not("isBroken", x.isBroken());
      Due.state("make", x, g -> g.make());
      Due.not("begin: one was begun", x.begin(0, NONE));
    });
    Edge.test(where, "no tests", () -> {
      Greentrunk x = new Greentrunk();
      Due.index("runs(0)", x, g -> g.runs(0));
      Due.eq("requires", x.requires(Due.change(x, 0, NONE, 0, 1)), 0);
      Due.eq("the first one", x.test(1, 1, 0), 0);
    });
    Edge.test(where, "no lines, no secrets, an empty log", () -> {
      Greentrunk x = Edge.tests(1);
      Due.eq("the first line", x.line(0, Edge.TOUCHES, 5), 1);
      Due.eq("the first rule", x.breaks(0, 0, 1, 0, 1), 1);
      Due.eq("shown", x.shown(), 0);
      Due.index("logAt(0)", x, g -> g.logAt(0));
      Due.eq("the first secret", x.secret(1, 12, 2), 1);
    });
    Edge.test(where, "the machine 0, and none of the others", () -> {
      Greentrunk x = new Greentrunk();
      for (int m = 0; m < 6; m++) Due.eq("machine " + m + " runs", x.running(m), NONE);
      Due.not("the machine 0 comes", x.come(0));
      for (int m = 1; m < 6; m++) Due.is("machine " + m + " comes", x.come(m));
      Greentrunk y = Edge.tests(2);
      y.fullRun();
      y.tick(1);
      Due.eq("machine 0 takes one", y.running(0), 0);
      for (int m = 1; m < 6; m++) Due.eq("machine " + m + " takes none", y.running(m), NONE);
    });
    Edge.test(where, "batches of 1, a depth of 1", () -> {
      Greentrunk x = new Greentrunk();
      int a = Due.queued(x, 0, 0, 0, 1), b = Due.queued(x, 0, 0, 1, 1);
      Due.eq("the first is in the first batch", x.batchOf(a), 0);
      Due.eq("the second is in none", x.batchOf(b), NONE);
      Due.eq("10 times 1, and 1", x.batches(1, 1), 11);
      x.tick(1);
      Due.eq("a commit each", x.commits(), 3);
    });
    Edge.test(where, "weights of 1", () -> {
      for (int t : Edge.from(0, 2)) Edge.takes("weigh " + t, Greentrunk::new, g -> g.weigh(t, 10), 1);
    });
    Edge.test(where, "clock, use and blame are 0, no owner, no full run", () -> {
      Greentrunk x = new Greentrunk();
      Due.eq("clock", x.clock(), 0);
      for (int t = 0; t < 3; t++) Due.eq("use", x.use(t), 0);
      for (int a = 0; a < 8; a++) Due.eq("blame", x.blame(a), 0);
      for (int f = 0; f < 12; f++) Due.eq("owner", x.own(f, 0), NONE);
      Due.eq("fullFailed", x.fullFailed(), NONE);
      x.tick(1);
      Due.eq("none is over", x.fullFailed(), NONE);
      Due.is("none is asked for", x.fullRun());
    });
    Edge.test(where, "objects are each their own", () -> {
      Greentrunk x = new Greentrunk(), y = new Greentrunk();
      Due.queued(x, 0, 0, 0, 1);
      x.test(1, 1, 0);
      x.own(0, 1);
      x.tick(30);
      Due.eq("changes of the other", y.changes(), 0);
      Due.eq("clock of the other", y.clock(), 0);
      Due.eq("owner of the other", y.own(0, 0), NONE);
      Due.index("tests of the other", y, g -> g.runs(0));
    });
  }

  // ---- promise 2

  private static Greentrunk begun() {
    Greentrunk x = new Greentrunk();
    x.begin(3, NONE);
    x.edit(2, 5);
    x.edit(7, 1);
    return x;
  }

  private static void begin() {
    String where = "Promise 2, begin";
    Edge.test(where, "author: 0 to 7", () -> {
      for (int a : Edge.from(0, 7)) {
        for (int owner : Edge.from(0, 2)) {
          Greentrunk x = new Greentrunk();
          Due.not("author " + a, x.begin(a, NONE));
          x.edit(0, 1);
          x.own(0, owner);
          int c = x.make();
          int approver = owner == a % 3 ? (a + 1) % 3 : a % 3;
          Due.eq("author " + a + " is of the team " + owner, Edge.bit(x.approve(c, approver)), owner == a % 3 ? 1 : 0);
        }
      }
      for (int a : Edge.outside(0, 7)) {
        Edge.index("author " + a, Greentrunk::new, g -> g.begin(a, NONE));
        Edge.index("author " + a + ", one is begun", EdgeChangesTest::begun, g -> g.begin(a, NONE));
      }
    });
    Edge.test(where, "parent: a change, or NONE", () -> {
      Edge.takes("NONE", Greentrunk::new, g -> Edge.bit(g.begin(0, NONE)), 0);
      Edge.index("0, when there is no change", Greentrunk::new, g -> g.begin(0, 0));
      for (int p : Edge.from(0, 2)) Edge.takes("parent " + p + " of 3", () -> Edge.drafts(3), g -> Edge.bit(g.begin(0, p)), 0);
      for (int p : Edge.outsideButNone(0, 2)) Edge.index("parent " + p + " of 3", () -> Edge.drafts(3), g -> g.begin(0, p));
      Edge.takes("parent 59 of 60", () -> Edge.drafts(60), g -> Edge.bit(g.begin(0, 59)), 0);
      for (int p : Edge.outsideButNone(0, 59)) Edge.index("parent " + p + " of 60", () -> Edge.drafts(60), g -> g.begin(0, p));
    });
    Edge.test(where, "IllegalStateException if the parent is neither DRAFT nor QUEUED", () -> {
      for (int s : STATES) {
        Edge.Start start = () -> Edge.changeIn(s);
        if (s == DRAFT || s == QUEUED) Edge.takes(Edge.nameOf(s), start, g -> Edge.bit(g.begin(0, 0)), 0);
        else Edge.state(Edge.nameOf(s), start, g -> g.begin(0, 0));
      }
    });
    Edge.test(where, "no such author comes ahead of the state of the parent", () -> {
      for (int a : Edge.outside(0, 7)) Edge.index("author " + a, () -> Edge.changeIn(DROPPED), g -> g.begin(a, 0));
    });
    Edge.test(where, "returns true if one was begun and not made", () -> {
      Greentrunk x = new Greentrunk();
      Due.not("nothing yet", x.begin(0, NONE));
      Due.is("begun", x.begin(0, NONE));
      x.edit(0, 1);
      x.make();
      Due.not("made", x.begin(0, NONE));
      x.edit(0, 0);
      Due.state("an edit is none", x, g -> g.make());
      Due.is("not made", x.begin(0, NONE));
    });
    Edge.test(where, "a draft without edits, in place of one that was begun", () -> {
      Greentrunk x = begun();
      x.begin(4, NONE);
      Due.state("no edits", x, g -> g.make());
      Due.eq("the first edit", x.edit(7, 2), 1);
      int c = x.make();
      x.queue(c, 0);
      x.tick(1);
      Due.eq("file 7", x.content(1, 7), 2);
      Due.eq("file 2 is of the one in whose place it is", x.content(1, 2), 0);
      Greentrunk y = Edge.drafts(1);
      y.begin(0, 0);
      y.begin(0, NONE);
      y.edit(0, 1);
      Due.eq("the parent is not that of the one ahead: it has 1 there", y.make(), 1);
    });
  }

  // ---- promise 3

  private static Greentrunk begunWith(int edits) {
    Greentrunk x = new Greentrunk();
    x.begin(0, NONE);
    for (int f = 0; f < edits; f++) x.edit(f, 1);
    return x;
  }

  private static void edit() {
    String where = "Promise 3, edit";
    Edge.test(where, "file: 0 to 11", () -> {
      for (int f : Edge.from(0, 11)) {
        Greentrunk x = begunWith(0);
        Due.eq("file " + f, x.edit(f, 7), 1);
        x.queue(x.make(), 0);
        x.tick(1);
        for (int i = 0; i < 12; i++) Due.eq("content of " + i, x.content(1, i), i == f ? 7 : 0);
      }
      for (int f : Edge.outside(0, 11)) {
        Edge.index("file " + f, () -> begunWith(1), g -> g.edit(f, 1));
        Edge.index("file " + f + ", nothing begun", Greentrunk::new, g -> g.edit(f, 1));
      }
    });
    Edge.test(where, "content: 0 to 9", () -> {
      for (int c : Edge.from(0, 9)) {
        for (int f : new int[] {0, 11}) {
          Greentrunk x = begunWith(0);
          Due.eq("content " + c, x.edit(f, c), 1);
          if (c == 0) continue;
          x.queue(x.make(), 0);
          x.tick(1);
          Due.eq("file " + f, x.content(1, f), c);
        }
      }
      Greentrunk zero = new Greentrunk();
      Due.queued(zero, 0, 0, 0, 9);
      zero.tick(1);
      Due.queued(zero, 0, 0, 0, 0);
      zero.tick(1);
      Due.eq("back to 0", zero.content(2, 0), 0);
      for (int c : Edge.outside(0, 9)) Edge.argument("content " + c, () -> begunWith(1), g -> g.edit(0, c));
    });
    Edge.test(where, "IllegalStateException if nothing was begun", () -> {
      Edge.state("in a new object", Greentrunk::new, g -> g.edit(0, 1));
      Edge.state("when it was made", () -> Edge.changeIn(DRAFT), g -> g.edit(0, 1));
    });
    Edge.test(where, "IllegalStateException if there would be more than 4", () -> {
      for (int n : Edge.from(0, 3)) Edge.takes("after " + n, () -> begunWith(n), g -> g.edit(11, 1), n + 1);
      for (int f : Edge.from(4, 11)) Edge.state("a fifth, " + f, () -> begunWith(4), g -> g.edit(f, 1));
    });
    Edge.test(where, "in place of one of the same file, also as one of 4", () -> {
      for (int f : Edge.from(0, 3)) {
        Greentrunk x = begunWith(4);
        Due.eq("file " + f, x.edit(f, 9), 4);
        Due.eq("and again", x.edit(f, 8), 4);
        x.queue(x.make(), 0);
        x.tick(1);
        for (int i = 0; i < 4; i++) Due.eq("content of " + i, x.content(1, i), i == f ? 8 : 1);
      }
    });
    Edge.test(where, "the file comes ahead of the content, and that ahead of the state", () -> {
      Edge.index("file and content", () -> begunWith(1), g -> g.edit(12, 10));
      Edge.index("file and state", () -> begunWith(4), g -> g.edit(-1, 1));
      Edge.index("all", Greentrunk::new, g -> g.edit(12, -1));
      Edge.argument("content and nothing begun", Greentrunk::new, g -> g.edit(0, 10));
      Edge.argument("content and a fifth", () -> begunWith(4), g -> g.edit(11, -1));
    });
  }

  // ---- promise 4

  private static Greentrunk begunOn(int state) {
    Greentrunk x = new Greentrunk();
    Due.change(x, 0, NONE, 0, 1);
    x.begin(1, 0);
    x.edit(1, 1);
    if (state == CLASHED) {
      // what was begun is there once only: the other change is made ahead
      x = new Greentrunk();
      Due.change(x, 0, NONE, 0, 1);
      Due.queued(x, 0, 0, 0, 2);
      x.begin(1, 0);
      x.edit(1, 1);
      x.tick(1);
    }
    if (state == RED) {
      x.test(1, 1, 0);
      x.breaks(0, 0, 1, 0, 1);
    }
    if (state != DRAFT) x.queue(0, 0);
    if (state == DROPPED) x.drop(0);
    if (state == LANDED || state == CLASHED) x.tick(1);
    if (state == RED) x.tick(4);
    Due.eq("the parent", x.state(0), state);
    return x;
  }

  private static void make() {
    String where = "Promise 4, make";
    Edge.test(where, "IllegalStateException if nothing was begun", () -> {
      Edge.state("in a new object", Greentrunk::new, g -> g.make());
      Edge.state("when it was made", () -> Edge.changeIn(DRAFT), g -> g.make());
      Edge.state("behind a revert", () -> {
        Greentrunk x = Edge.changeIn(LANDED);
        x.revert(1, 0);
        return x;
      }, g -> g.make());
    });
    Edge.test(where, "IllegalStateException if it has no edits", () -> {
      Edge.state("none", () -> begunWith(0), g -> g.make());
      for (int n : Edge.from(1, 4)) Edge.takes(n + " edits", () -> begunWith(n), g -> g.make(), 0);
    });
    Edge.test(where, "IllegalStateException if an edit is none against its base", () -> {
      for (int idle : Edge.from(0, 3)) {
        Edge.state("edit " + idle + " of 4", () -> {
          Greentrunk x = begunWith(4);
          x.edit(idle, 0);
          return x;
        }, g -> g.make());
      }
      Edge.state("against its parent's tree", () -> {
        Greentrunk x = Edge.drafts(1);
        x.begin(0, 0);
        x.edit(0, 1);
        return x;
      }, g -> g.make());
      Edge.takes("the trunk's content is none against the trunk only", () -> {
        Greentrunk x = Edge.drafts(1);
        x.begin(0, 0);
        x.edit(0, 0);
        return x;
      }, g -> g.make(), 1);
      Edge.takes("9 against 8, in the last file", () -> {
        Greentrunk x = new Greentrunk();
        Due.queued(x, 0, 0, 11, 8);
        x.tick(1);
        x.begin(0, NONE);
        x.edit(11, 9);
        return x;
      }, g -> g.make(), 1);
    });
    Edge.test(where, "its base is that of now, not that of its beginning", () -> {
      Edge.state("the trunk has it by now", () -> {
        Greentrunk x = Edge.drafts(1);
        x.begin(0, NONE);
        x.edit(0, 1);
        x.queue(0, 0);
        x.tick(1);
        return x;
      }, g -> g.make());
      Greentrunk x = Edge.drafts(1);
      x.begin(0, NONE);
      x.edit(0, 5);
      x.queue(0, 0);
      x.tick(1);
      x.queue(x.make(), 0);
      Due.eq("it fits the trunk of now", x.tick(1), 1);
    });
    Edge.test(where, "IllegalStateException if its parent is neither DRAFT nor QUEUED any more", () -> {
      for (int s : STATES) {
        if (s == DRAFT || s == QUEUED) Edge.takes(Edge.nameOf(s), () -> begunOn(s), g -> g.make(), 1);
        else Edge.state(Edge.nameOf(s), () -> begunOn(s), g -> g.make());
      }
    });
    Edge.test(where, "IllegalStateException if there are 60 changes", () -> {
      for (int n : new int[] {0, 1, 58, 59}) {
        Edge.takes("after " + n, () -> {
          Greentrunk x = Edge.drafts(n);
          x.begin(0, NONE);
          x.edit(1, 1);
          return x;
        }, g -> g.make(), n);
      }
      Edge.state("after 60", () -> {
        Greentrunk x = Edge.drafts(60);
        x.begin(0, NONE);
        x.edit(1, 1);
        return x;
      }, g -> g.make());
    });
    Edge.test(where, "what could not be made is still begun", () -> {
      Greentrunk x = begunWith(1);
      x.edit(0, 0);
      Due.state("none", x, g -> g.make());
      Due.eq("in its place", x.edit(0, 3), 1);
      Due.eq("made", x.make(), 0);
    });
  }

  // ---- promise 5

  private static void rebase() {
    String where = "Promise 5, rebase";
    Edge.test(where, "change: a change", () -> {
      Edge.index("0, when there is none", Greentrunk::new, g -> g.rebase(0));
      for (int c : Edge.from(0, 2)) Edge.takes("change " + c, () -> Edge.drafts(3), g -> g.rebase(c), 0);
      for (int c : Edge.outside(0, 2)) Edge.index("change " + c + " of 3", () -> Edge.drafts(3), g -> g.rebase(c));
      Edge.takes("change 59", () -> Edge.drafts(60), g -> g.rebase(59), 0);
      for (int c : Edge.outside(0, 59)) Edge.index("change " + c + " of 60", () -> Edge.drafts(60), g -> g.rebase(c));
    });
    Edge.test(where, "IllegalStateException if it is not DRAFT", () -> {
      for (int s : STATES) {
        if (s == DRAFT) Edge.takes("DRAFT", () -> Edge.changeIn(s), g -> g.rebase(0), 0);
        else Edge.state(Edge.nameOf(s), () -> Edge.changeIn(s), g -> g.rebase(0));
      }
    });
    Edge.test(where, "IllegalStateException if an edit would be none", () -> {
      for (int f : Edge.from(0, 3)) {
        Edge.Start start = () -> {
          Greentrunk x = new Greentrunk();
          Due.change(x, 0, NONE, 0, 5, 1, 5, 2, 5, 3, 5);
          Due.queued(x, 0, 0, f, 5);
          x.tick(1);
          return x;
        };
        Edge.state("the trunk has that of file " + f, start, g -> g.rebase(0));
      }
      Edge.state("on the trunk, without its parent", () -> {
        Greentrunk x = new Greentrunk();
        Due.change(x, 0, NONE, 0, 1);
        Due.change(x, 0, 0, 0, 0);
        x.queue(0, 0);
        x.drop(0);
        return x;
      }, g -> g.rebase(1));
    });
    Edge.test(where, "returns how many of its files have another content in its base than before", () -> {
      for (int low : new int[] {0, 3, 8}) {
        for (int n : Edge.from(0, 4)) {
          Edge.takes(n + " of its 4 files", () -> {
            Greentrunk x = new Greentrunk();
            Due.change(x, 0, NONE, low, 5, low + 1, 5, low + 2, 5, low + 3, 5);
            Due.queued(x, 0, 0, (low + 6) % 12, 3);
            for (int i = 0; i < n; i++) Due.queued(x, 0, 0, low + i, 9);
            x.tick(1);
            return x;
          }, g -> g.rebase(0), n);
        }
      }
    });
    Edge.test(where, "its base becomes that of now: it fits then, and did not before; a second time nothing is another", () -> {
      for (boolean isRebased : new boolean[] {false, true}) {
        Greentrunk x = new Greentrunk();
        int c = Due.change(x, 0, NONE, 0, 5, 11, 5);
        int child = Due.change(x, 0, c, 0, 6);
        Due.queued(x, 0, 0, 11, 9);
        x.tick(1);
        if (isRebased) Due.eq("file 11", x.rebase(c), 1);
        if (isRebased) Due.eq("nothing more", x.rebase(c), 0);
        Due.eq("file 0 of its parent is as it was", x.rebase(child), 0);
        x.queue(c, 0);
        x.queue(child, 0);
        Due.eq("both land, or neither", x.tick(1), isRebased ? 2 : 0);
        Due.eq("its state", x.state(c), isRebased ? LANDED : CLASHED);
        Due.eq("its child's", x.state(child), isRebased ? LANDED : DROPPED);
      }
    });
    Edge.test(where, "a refused one keeps its base and its parent", () -> {
      Greentrunk x = new Greentrunk();
      int parent = Due.change(x, 0, NONE, 0, 1);
      int c = Due.change(x, 0, parent, 0, 0, 1, 1);
      x.queue(parent, 0);
      x.drop(parent);
      Due.state("0 is none on the trunk", x, g -> g.rebase(c));
      Due.state("its parent is DROPPED still", x, g -> g.queue(c, 0));
    });
    Edge.test(where, "on the tree of its parent, if that is DRAFT or QUEUED, otherwise of the trunk, without a parent", () -> {
      for (int s : STATES) {
        Greentrunk x = Edge.childOfOneIn(s);
        x.rebase(1);
        if (s == DRAFT) {
          Due.state("its parent is DRAFT still", x, g -> g.queue(1, 0));
        } else {
          Due.eq(Edge.nameOf(s), x.queue(1, 3), s == QUEUED ? 1 : 0);
          if (s == QUEUED) Due.eq("it leaves with its parent", x.drop(0), 2);
          else Due.is("it stands on nobody", x.wouldLand(1));
        }
      }
    });
  }

  // ---- promises 6 and 7

  private static void own() {
    String where = "Promise 6, own";
    Edge.test(where, "file: 0 to 11", () -> {
      for (int f : Edge.from(0, 11)) {
        Greentrunk x = new Greentrunk();
        Due.eq("file " + f, x.own(f, 2), NONE);
        for (int i = 0; i < 12; i++) Due.eq("owner of " + i, x.own(i, NONE), i == f ? 2 : NONE);
      }
      for (int f : Edge.outside(0, 11)) Edge.index("file " + f, Greentrunk::new, g -> g.own(f, 0));
    });
    Edge.test(where, "team: 0 to 2, or NONE; returns the owner before", () -> {
      int before = NONE;
      Greentrunk x = new Greentrunk();
      for (int t : new int[] {0, 1, 2, NONE, NONE, 2, 2, 0}) {
        Due.eq("team " + t, x.own(5, t), before);
        before = t;
      }
      for (int t : Edge.outsideButNone(0, 2)) Edge.index("team " + t, Greentrunk::new, g -> g.own(0, t));
      Edge.index("file and team", Greentrunk::new, g -> g.own(12, 3));
    });
  }

  private static Greentrunk owned() {
    Greentrunk x = Edge.drafts(3);
    x.own(0, 2);
    return x;
  }

  private static void approve() {
    String where = "Promise 7, approve";
    Edge.test(where, "change: a change", () -> {
      Edge.index("0, when there is none", Greentrunk::new, g -> g.approve(0, 0));
      for (int c : Edge.from(0, 2)) Edge.takes("change " + c, EdgeChangesTest::owned, g -> Edge.bit(g.approve(c, 2)), 1);
      for (int c : Edge.outside(0, 2)) Edge.index("change " + c + " of 3", EdgeChangesTest::owned, g -> g.approve(c, 2));
      Edge.takes("change 59", () -> Edge.drafts(60), g -> Edge.bit(g.approve(59, 0)), 1);
      for (int c : Edge.outside(0, 59)) Edge.index("change " + c + " of 60", () -> Edge.drafts(60), g -> g.approve(c, 0));
    });
    Edge.test(where, "team: 0 to 2", () -> {
      for (int t : Edge.from(0, 2)) {
        for (int owner : Edge.from(1, 2)) {
          Greentrunk x = Edge.drafts(1);
          x.own(0, owner);
          Due.eq("team " + t + " for owner " + owner, Edge.bit(x.approve(0, t)), t == owner ? 1 : 0);
        }
      }
      for (int t : Edge.outside(0, 2)) Edge.index("team " + t, EdgeChangesTest::owned, g -> g.approve(1, t));
      Edge.index("change and team", EdgeChangesTest::owned, g -> g.approve(3, 3));
    });
    Edge.test(where, "approved by all owners: without an owner by anybody, with four by all of them", () -> {
      Edge.takes("no owner", () -> Edge.drafts(1), g -> Edge.bit(g.approve(0, 2)), 1);
      Greentrunk x = new Greentrunk();
      Due.change(x, 0, NONE, 0, 1, 1, 1, 10, 1, 11, 1);
      x.own(0, 0);
      x.own(1, 1);
      x.own(10, 2);
      x.own(11, 1);
      x.own(2, 2);
      Due.not("team 2 has not", x.approve(0, 1));
      Due.is("team 0 is its author's", x.approve(0, 2));
    });
    Edge.test(where, "in every state", () -> {
      for (int s : STATES) {
        Greentrunk x = Edge.changeIn(s);
        x.own(0, 1);
        Due.not(Edge.nameOf(s) + ", by another", x.approve(0, 2));
        Due.is(Edge.nameOf(s), x.approve(0, 1));
      }
    });
  }

  // ---- promise 8

  private static void queue() {
    String where = "Promise 8, queue";
    Edge.test(where, "change: a change", () -> {
      Edge.index("0, when there is none", Greentrunk::new, g -> g.queue(0, 0));
      for (int c : Edge.from(0, 2)) Edge.takes("change " + c, () -> Edge.drafts(3), g -> g.queue(c, 0), 0);
      for (int c : Edge.outside(0, 2)) Edge.index("change " + c + " of 3", () -> Edge.drafts(3), g -> g.queue(c, 0));
      Edge.takes("change 59", () -> Edge.drafts(60), g -> g.queue(59, 3), 0);
      for (int c : Edge.outside(0, 59)) Edge.index("change " + c + " of 60", () -> Edge.drafts(60), g -> g.queue(c, 0));
    });
    Edge.test(where, "priority: 0 to 3", () -> {
      for (int p : Edge.from(0, 3)) {
        Greentrunk x = Edge.drafts(5);
        for (int i = 0; i < 4; i++) x.queue(i, i);
        Due.eq("behind those of " + p + " and above", x.queue(4, p), 4 - p);
      }
      for (int p : Edge.outside(0, 3)) Edge.argument("priority " + p, () -> Edge.drafts(2), g -> g.queue(1, p));
    });
    Edge.test(where, "IllegalStateException if it is not DRAFT", () -> {
      for (int s : STATES) {
        if (s == DRAFT) Edge.takes("DRAFT", () -> Edge.changeIn(s), g -> g.queue(0, 0), 0);
        else Edge.state(Edge.nameOf(s), () -> Edge.changeIn(s), g -> g.queue(0, 0));
      }
    });
    Edge.test(where, "IllegalStateException if it is not approved", () -> {
      for (int owner : Edge.from(NONE, 2)) {
        for (int author : Edge.from(0, 7)) {
          Edge.Start start = () -> {
            Greentrunk x = new Greentrunk();
            Due.change(x, author, NONE, 0, 1, 11, 1);
            x.own(11, owner);
            return x;
          };
          if (owner == NONE || owner == author % 3) Edge.takes("of its own team", start, g -> g.queue(0, 0), 0);
          else Edge.state("owner " + owner + ", author " + author, start, g -> g.queue(0, 0));
        }
      }
      Edge.takes("approved", () -> {
        Greentrunk x = owned();
        x.approve(0, 2);
        return x;
      }, g -> g.queue(0, 0), 0);
      Edge.state("another is approved", () -> {
        Greentrunk x = owned();
        x.approve(1, 2);
        return x;
      }, g -> g.queue(0, 0));
      Edge.takes("not approved by an owner of a file that it does not edit", () -> {
        Greentrunk x = Edge.drafts(1);
        x.own(1, 2);
        return x;
      }, g -> g.queue(0, 0), 0);
    });
    Edge.test(where, "IllegalStateException if its parent is neither QUEUED nor LANDED", () -> {
      for (int s : STATES) {
        Edge.Start start = () -> Edge.childOfOneIn(s);
        if (s == QUEUED || s == LANDED) Edge.takes(Edge.nameOf(s), start, g -> g.queue(1, 0), s == QUEUED ? 1 : 0);
        else Edge.state(Edge.nameOf(s), start, g -> g.queue(1, 0));
      }
    });
    Edge.test(where, "the change comes ahead of the priority, and that ahead of the state", () -> {
      Edge.index("change and priority", () -> Edge.drafts(1), g -> g.queue(1, 4));
      Edge.index("change and priority", Greentrunk::new, g -> g.queue(0, -1));
      for (int s : STATES) {
        if (s != DRAFT) Edge.argument("priority and " + Edge.nameOf(s), () -> Edge.changeIn(s), g -> g.queue(0, 4));
      }
      Edge.argument("priority and not approved", EdgeChangesTest::owned, g -> g.queue(0, -1));
      Edge.argument("priority and its parent", () -> Edge.childOfOneIn(DRAFT), g -> g.queue(1, 4));
    });
    Edge.test(where, "returns its place in the order then: 0 in an empty queue, 59 as the last of 60", () -> {
      Greentrunk x = Edge.drafts(60);
      for (int i = 0; i < 60; i++) Due.eq("place", x.queue(i, 0), i);
      Greentrunk y = Edge.drafts(60);
      for (int i = 0; i < 59; i++) y.queue(i, 0);
      Due.eq("ahead of 59", y.queue(59, 1), 0);
    });
  }

  // ---- promise 9

  private static void drop() {
    String where = "Promise 9, drop";
    Edge.test(where, "change: a change", () -> {
      Edge.index("0, when there is none", Greentrunk::new, g -> g.drop(0));
      Edge.Start all = () -> {
        Greentrunk x = Edge.drafts(3);
        for (int i = 0; i < 3; i++) x.queue(i, 0);
        return x;
      };
      for (int c : Edge.from(0, 2)) Edge.takes("change " + c, all, g -> g.drop(c), 1);
      for (int c : Edge.outside(0, 2)) Edge.index("change " + c + " of 3", all, g -> g.drop(c));
      for (int c : Edge.outside(0, 59)) Edge.index("change " + c + " of 60", () -> Edge.drafts(60), g -> g.drop(c));
    });
    Edge.test(where, "IllegalStateException if it is not QUEUED", () -> {
      for (int s : STATES) {
        if (s == QUEUED) Edge.takes("QUEUED", () -> Edge.changeIn(s), g -> g.drop(0), 1);
        else Edge.state(Edge.nameOf(s), () -> Edge.changeIn(s), g -> g.drop(0));
      }
    });
    Edge.test(where, "returns how many leave the queue by that: 1 alone, 60 as the lowest of a stack of 60", () -> {
      for (int low : new int[] {0, 1, 30, 58, 59}) {
        Greentrunk x = new Greentrunk();
        for (int i = 0; i < 60; i++) x.queue(Due.change(x, 0, i - 1, 0, 1 + i % 9), 0);
        Due.eq("from " + low, x.drop(low), 60 - low);
        Due.eq("left", x.queued(), low);
        for (int i = 0; i < 60; i++) Due.eq("state of " + i, x.state(i), i < low ? QUEUED : DROPPED);
      }
    });
    Edge.test(where, "only what stands on it leaves: neither a DRAFT nor one beside it", () -> {
      Greentrunk x = new Greentrunk();
      int a = Due.queued(x, 0, 0, 0, 1), b = Due.queued(x, 0, 0, 1, 1);
      int draft = Due.change(x, 0, a, 2, 1), onB = Due.change(x, 0, b, 3, 1);
      x.queue(onB, 0);
      Due.eq("a alone", x.drop(a), 1);
      Due.eq("a DRAFT stays", x.state(draft), DRAFT);
      Due.eq("b stays", x.state(b), QUEUED);
      Due.eq("so does what stands on it", x.state(onB), QUEUED);
    });
  }

  // ---- promise 10

  /** As many commits behind the commit 0 as told, each of one change of one file. */
  private static Greentrunk commits(int many) {
    Greentrunk x = new Greentrunk();
    for (int i = 0; i < many; i++) {
      Due.queued(x, 0, 0, i % 12, 1 + i / 12);
      x.tick(1);
    }
    return x;
  }

  /** The commit 1 gives all 12 files another content, 1 to 9 and 1 to 3. */
  private static Greentrunk allFiles() {
    Greentrunk x = new Greentrunk();
    x.batches(3, 1);
    for (int f = 0; f < 12; f += 4) {
      Due.queued(x, 0, 0, f, 1 + f % 9, f + 1, 1 + (f + 1) % 9, f + 2, 1 + (f + 2) % 9, f + 3, 1 + (f + 3) % 9);
    }
    x.tick(1);
    Due.eq("one commit", x.commits(), 2);
    return x;
  }

  private static void revert() {
    String where = "Promise 10, revert";
    Edge.test(where, "commit: a commit", () -> {
      for (int c : Edge.from(1, 3)) Edge.takes("commit " + c, () -> commits(3), g -> g.revert(c, 0), 3);
      for (int c : Edge.outside(0, 3)) Edge.index("commit " + c + " of 4", () -> commits(3), g -> g.revert(c, 0));
      for (int c : Edge.outside(0, 0)) Edge.index("commit " + c + " of 1", Greentrunk::new, g -> g.revert(c, 0));
      Edge.takes("commit 59", () -> commits(59), g -> g.revert(59, 0), 59);
      for (int c : Edge.outside(0, 59)) Edge.index("commit " + c + " of 60", () -> commits(59), g -> g.revert(c, 0));
    });
    Edge.test(where, "author: 0 to 7", () -> {
      for (int a : Edge.from(0, 7)) {
        Greentrunk x = commits(1);
        x.test(1, 1, 0);
        x.line(0, Edge.BY, a % 3);
        x.test(2, 1, 0);
        x.line(1, Edge.BY, (a + 1) % 3);
        Due.eq("author " + a, x.revert(1, a), 1);
        Due.eq("by its team", x.requires(1), 1);
      }
      for (int a : Edge.outside(0, 7)) Edge.index("author " + a, () -> commits(1), g -> g.revert(1, a));
    });
    Edge.test(where, "IllegalArgumentException if commit is 0", () -> {
      Edge.argument("in a new object", Greentrunk::new, g -> g.revert(0, 0));
      Edge.argument("with other commits", () -> commits(3), g -> g.revert(0, 7));
    });
    Edge.test(where, "IllegalStateException if a file that it changed has another content in the trunk than in it", () -> {
      for (int later : Edge.from(0, 11)) {
        Edge.Start start = () -> {
          Greentrunk x = new Greentrunk();
          Due.queued(x, 0, 0, 0, 1, 3, 1, 5, 1, 11, 1);
          x.tick(1);
          Due.queued(x, 0, 0, later, 2);
          x.tick(1);
          return x;
        };
        boolean isItsOwn = later == 0 || later == 3 || later == 5 || later == 11;
        if (isItsOwn) Edge.state("file " + later, start, g -> g.revert(1, 0));
        else Edge.takes("file " + later + " is none of its", start, g -> g.revert(1, 0), 2);
      }
      Edge.takes("the content is that of the commit again", () -> {
        Greentrunk x = commits(1);
        Due.queued(x, 0, 0, 0, 2);
        x.tick(1);
        Due.queued(x, 0, 0, 0, 1);
        x.tick(1);
        return x;
      }, g -> g.revert(1, 0), 3);
    });
    Edge.test(where, "IllegalStateException if there are 60 changes", () -> {
      Edge.takes("59", () -> commits(59), g -> g.revert(59, 0), 59);
      Edge.state("60", () -> commits(60), g -> g.revert(60, 0));
      Edge.state("60, by a revert", () -> {
        Greentrunk x = commits(59);
        x.revert(59, 0);
        return x;
      }, g -> g.revert(58, 0));
    });
    Edge.test(where, "commit and author come ahead of the 0, and that ahead of the state", () -> {
      Edge.index("the commit 0 and author 8", () -> commits(1), g -> g.revert(0, 8));
      Edge.index("commit and author", () -> commits(1), g -> g.revert(2, -1));
      Edge.index("author and 60 changes", () -> commits(60), g -> g.revert(60, 8));
      Edge.index("commit and 60 changes", () -> commits(60), g -> g.revert(61, 0));
      Edge.index("author and another content", () -> {
        Greentrunk x = commits(1);
        Due.queued(x, 0, 0, 0, 2);
        x.tick(1);
        return x;
      }, g -> g.revert(1, 8));
      Edge.argument("the commit 0 and 60 changes", () -> commits(60), g -> g.revert(0, 0));
    });
    Edge.test(where, "it may have more than 4 edits: all 12 files", () -> {
      Greentrunk x = allFiles();
      for (int f = 0; f < 10; f++) x.test(1 << f, 1, 0);
      int all = x.revert(1, 7);
      Due.eq("it requires all tests", x.requires(all), 1023);
      Due.eq("they run by one machine", x.tick(10), 0);
      Due.eq("it lands", x.tick(1), 1);
      for (int f = 0; f < 12; f++) Due.eq("content of " + f, x.content(2, f), 0);
      for (int f = 0; f < 12; f++) x.line(0, Edge.TOUCHES, f);
      int back = x.revert(2, 0);
      Due.eq("the revert is reverted", x.tick(11), 1);
      for (int f = 0; f < 12; f++) Due.eq("content of " + f, x.content(x.landedBy(back), f), 1 + f % 9);
      for (int f = 0; f < 12; f++) {
        int later = f;
        Edge.state("file " + f + " of 12 has another content", () -> {
          Greentrunk y = allFiles();
          Due.queued(y, 0, 0, later, 0);
          y.tick(1);
          return y;
        }, g -> g.revert(1, 0));
      }
    });
    Edge.test(where, "or none: it lands, and changes nothing", () -> {
      Greentrunk x = new Greentrunk();
      x.batches(2, 1);
      int a = Due.queued(x, 0, 0, 0, 1);
      x.queue(Due.change(x, 0, a, 0, 0), 0);
      Due.eq("both land", x.tick(1), 2);
      x.test(4095, 1, 0);
      Due.queued(x, 1, 3, 0, 7);
      x.tick(3);
      int none = x.revert(1, 4);
      Due.eq("first of the order", x.queuedAt(0), none);
      Due.eq("it requires nothing", x.requires(none), 0);
      x.line(0, Edge.TOUCHES, 0);
      x.line(0, Edge.BY, 0);
      Due.eq("it touches no file", x.requires(none), 0);
      x.line(0, Edge.BY, 1);
      Due.eq("but for a line by its team", x.requires(none), 1);
      Due.is("it would land", x.wouldLand(none));
      Due.is("there is nothing to approve", x.approve(none, 0));
      Due.eq("it lands by the verdict there is", x.tick(1), 1);
      int by = x.landedBy(none);
      for (int f = 0; f < 12; f++) Due.eq("content", x.content(by, f), x.content(by - 1, f));
      Due.eq("a revert of it has none as well", x.revert(by, 0), none + 1);
      Due.eq("and lands", x.tick(2), 1);
    });
    Edge.test(where, "without a parent: no change leaves the queue, or keeps it from landing, for it", () -> {
      for (int s : STATES) {
        Greentrunk x = Edge.changeIn(s);
        x.own(0, NONE);
        int other = Due.queued(x, 0, 3, 11, 1);
        x.tick(1);
        if (x.state(other) != LANDED) x.tick(6);
        int by = x.landedBy(other);
        Due.is("there is a commit to revert", by > 0);
        int revert = x.revert(by, 0);
        Due.is(Edge.nameOf(s) + ": it would land", x.wouldLand(revert));
        Due.eq(Edge.nameOf(s) + ": its batch", x.batchOf(revert), 0);
        Due.eq(Edge.nameOf(s) + ": it lands", x.tick(1), 1);
        Due.eq("file 11 is 0 again", x.content(x.commits() - 1, 11), 0);
      }
      Greentrunk x = new Greentrunk();
      int first = Due.change(x, 0, NONE, 0, 1);
      Due.queued(x, 0, 0, 11, 1);
      x.tick(1);
      x.queue(first, 0);
      x.revert(1, 0);
      Due.eq("it stays when the change 0 leaves", x.drop(first), 1);
      Due.eq("it lands", x.tick(1), 1);
    });
    Edge.test(where, "queues it with the priority 0, ahead of all that are no reverts; it need not be approved", () -> {
      Greentrunk x = commits(3);
      for (int f = 0; f < 12; f++) x.own(f, 1);
      x.own(11, NONE);
      int high = Due.queued(x, 0, 3, 11, 1);
      int first = x.revert(1, 0);
      int second = x.revert(2, 5);
      Due.eq("the first", x.queuedAt(0), first);
      Due.eq("the second", x.queuedAt(1), second);
      Due.eq("then the others", x.queuedAt(2), high);
      Due.not("not approved", x.approve(first, 0));
      Due.eq("all land", x.tick(1), 3);
    });
  }

  public static void main(String[] args) {
    newObject();
    begin();
    edit();
    make();
    rebase();
    own();
    approve();
    queue();
    drop();
    revert();
    Edge.end("EdgeChangesTest");
  }
}
