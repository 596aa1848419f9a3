import java.util.ArrayList;
import java.util.List;

/** The boundaries that promises 16 to 21 name, and those of "Terms": the queue, runs and machines, time. */
public final class EdgeQueueTest {
  private static final int NONE = Edge.NONE;
  private static final int QUEUED = Edge.QUEUED, LANDED = Edge.LANDED, RED = Edge.RED;
  private static final int CLASHED = Edge.CLASHED, DROPPED = Edge.DROPPED;
  private static final int ALWAYS = Edge.ALWAYS;

  /** A stack of changes of file 0, all queued: each is on the one ahead. */
  private static Greentrunk stack(int many) {
    Greentrunk x = new Greentrunk();
    for (int i = 0; i < many; i++) x.queue(Due.change(x, 0, i - 1, 0, 1 + i % 9), 0);
    return x;
  }

  // ---- promise 16

  private static void batches() {
    String where = "Promise 16, batches";
    Edge.test(where, "size: 1 to 8, depth: 1 to 4: each pair", () -> {
      Greentrunk x = stack(34);
      for (int size : Edge.from(1, 8)) {
        for (int depth : Edge.from(1, 4)) {
          x.batches(size, depth);
          for (int i = 0; i < 34; i++) {
            Due.eq(size + " and " + depth + ": batch of " + i, x.batchOf(i), i < size * depth ? i / size : NONE);
          }
        }
      }
    });
    Edge.test(where, "returns 10 times the size, and the depth, added, before", () -> {
      Greentrunk x = new Greentrunk();
      int before = 11;
      for (int size : new int[] {8, 1, 2, 7, 8}) {
        for (int depth : Edge.from(1, 4)) {
          Due.eq("before", x.batches(size, depth), before);
          before = 10 * size + depth;
        }
      }
    });
    Edge.test(where, "IllegalArgumentException if size or depth is out of range", () -> {
      Edge.Start start = () -> {
        Greentrunk x = stack(10);
        x.batches(3, 2);
        return x;
      };
      for (int size : Edge.outside(1, 8)) Edge.argument("size " + size, start, g -> g.batches(size, 1));
      for (int depth : Edge.outside(1, 4)) Edge.argument("depth " + depth, start, g -> g.batches(1, depth));
      Edge.argument("both", start, g -> g.batches(0, 5));
      Edge.argument("both", Greentrunk::new, g -> g.batches(9, 0));
    });
  }

  // ---- promises 17 and 18

  private static Greentrunk someMachines() {
    Greentrunk x = Edge.tests(1);
    x.come(5);
    x.come(2);
    x.vanish(0);
    x.fullRun();
    x.tick(1);
    return x;
  }

  private static void machines() {
    String where = "Promise 17, come";
    Edge.test(where, "machine: 0 to 5", () -> {
      for (int m : Edge.from(0, 5)) {
        Edge.takes("machine " + m, Greentrunk::new, g -> Edge.bit(g.come(m)), m == 0 ? 0 : 1);
        Edge.takes("machine " + m, EdgeQueueTest::someMachines, g -> Edge.bit(g.come(m)), m == 2 || m == 5 ? 0 : 1);
      }
      for (int m : Edge.outside(0, 5)) {
        Edge.index("machine " + m, Greentrunk::new, g -> g.come(m));
        Edge.index("machine " + m, EdgeQueueTest::someMachines, g -> g.come(m));
      }
    });
    Edge.test(where, "returns true if it was not there, also behind a vanish", () -> {
      Greentrunk x = new Greentrunk();
      for (int m : Edge.from(1, 5)) Due.is("machine " + m, x.come(m));
      for (int m : Edge.from(0, 5)) Due.not("machine " + m + " is there", x.come(m));
      for (int m : Edge.from(0, 5)) {
        x.vanish(m);
        Due.is("machine " + m + " again", x.come(m));
        Due.not("machine " + m + " is there", x.come(m));
      }
    });
    Edge.test(where, "one that is there goes on with its run", () -> {
      Greentrunk x = new Greentrunk();
      x.test(1, 3, 0);
      x.fullRun();
      x.tick(2);
      x.come(0);
      Due.eq("it runs", x.running(0), 0);
      x.tick(2);
      Due.eq("in its time", x.runs(0), 1);
      x.outside(0, true);
      x.fullRun();
      x.tick(1);
      x.come(0);
      x.tick(2);
      Due.eq("and it is warm still", x.runs(0), 1);
    });
    String gone = "Promise 18, vanish";
    Edge.test(gone, "machine: 0 to 5", () -> {
      for (int m : Edge.from(0, 5)) {
        Edge.takes("machine " + m, Greentrunk::new, g -> Edge.bit(g.vanish(m)), 0);
        Edge.takes("machine " + m, EdgeQueueTest::someMachines, g -> Edge.bit(g.vanish(m)), m == 2 ? 1 : 0);
      }
      for (int m : Edge.outside(0, 5)) {
        Edge.index("machine " + m, Greentrunk::new, g -> g.vanish(m));
        Edge.index("machine " + m, EdgeQueueTest::someMachines, g -> g.vanish(m));
      }
    });
    Edge.test(gone, "returns true if it ran something: not ahead of a tick, nor when it has told, nor when it is not there", () -> {
      Greentrunk x = new Greentrunk();
      x.test(1, 2, 0);
      x.fullRun();
      Due.not("ahead of the tick", x.vanish(0));
      x.come(0);
      x.tick(2);
      Due.is("in its last tick", x.vanish(0));
      Due.not("not there", x.vanish(0));
      x.come(0);
      x.tick(3);
      Due.eq("told", x.runs(0), 1);
      Due.not("it has told", x.vanish(0));
    });
    Edge.test(gone, "also a run that tells nothing any more is something", () -> {
      Greentrunk x = new Greentrunk();
      x.test(1, 2, 0);
      x.fullRun();
      x.tick(1);
      x.outside(0, true);
      Due.is("it ran", x.vanish(0));
    });
    Edge.test(gone, "its run is lost, as if it had not been: the number of the next run is the same", () -> {
      // of the degree 1, with 8 the draws are 0 and 9
      Greentrunk x = new Greentrunk();
      x.test(1, 2, 1);
      Due.queued(x, 0, 0, 0, 8);
      x.tick(2);
      x.vanish(0);
      x.come(0);
      x.tick(2);
      Due.eq("nothing told", x.runs(0), 0);
      x.tick(1);
      Due.eq("the first run fails", x.commits(), 1);
      Due.eq("told", x.runs(0), 1);
      Due.eq("the second passes", x.tick(1), 1);
      Due.eq("flaked", x.flaked(0), 1);
      Due.eq("but its use stays: 2, 2, and 1 warm", x.use(0), 5);
    });
    Edge.test(gone, "it forgets what it ran last", () -> {
      for (boolean vanishes : new boolean[] {false, true}) {
        Greentrunk x = new Greentrunk();
        x.test(1, 6, 0);
        Due.queued(x, 0, 0, 0, 1);
        x.tick(7);
        if (vanishes) {
          x.vanish(0);
          x.come(0);
        }
        Due.queued(x, 0, 0, 0, 2);
        x.tick(5);
        Due.eq("not yet", x.commits(), 2);
        x.tick(1);
        Due.eq("5 ticks if it is warm", x.commits(), vanishes ? 2 : 3);
        x.tick(1);
        Due.eq("6 ticks if it is not", x.commits(), 3);
      }
    });
    Edge.test(gone, "without a machine nothing is run, but what needs no run lands", () -> {
      Greentrunk x = new Greentrunk();
      x.test(1, 1, 0);
      x.vanish(0);
      int wants = Due.queued(x, 0, 0, 0, 1), none = Due.queued(x, 0, 3, 1, 1);
      Due.eq("one lands", x.tick(30), 1);
      Due.eq("LANDED", x.state(none), LANDED);
      Due.eq("QUEUED", x.state(wants), QUEUED);
      Due.eq("no run", x.runs(0), 0);
      x.come(5);
      Due.eq("by machine 5", x.tick(2), 1);
    });
  }

  // ---- promise 19

  private static void weigh() {
    String where = "Promise 19, weigh";
    Edge.test(where, "team: 0 to 2", () -> {
      for (int t : Edge.from(0, 2)) {
        Greentrunk x = new Greentrunk();
        Due.eq("team " + t, x.weigh(t, 9), 1);
        for (int i : Edge.from(0, 2)) Due.eq("weight of " + i, x.weigh(i, 1), i == t ? 9 : 1);
      }
      for (int t : Edge.outside(0, 2)) Edge.index("team " + t, Greentrunk::new, g -> g.weigh(t, 2));
    });
    Edge.test(where, "weight: 1 to 10; returns the weight before", () -> {
      int before = 1;
      Greentrunk x = new Greentrunk();
      for (int w : new int[] {10, 1, 2, 3, 4, 5, 6, 7, 8, 9, 10, 10, 1}) {
        Due.eq("weight " + w, x.weigh(1, w), before);
        before = w;
      }
      for (int w : Edge.outside(1, 10)) Edge.argument("weight " + w, Greentrunk::new, g -> g.weigh(2, w));
    });
    Edge.test(where, "the team comes ahead of the weight", () -> {
      Edge.index("team 3, weight 0", Greentrunk::new, g -> g.weigh(3, 0));
      Edge.index("team -1, weight 11", Greentrunk::new, g -> g.weigh(-1, 11));
    });
    shares();
  }

  /** A trunk on which each team has used the machines for as many ticks as told: each change wants a run of 1 tick. */
  private static Greentrunk used(int... uses) {
    Greentrunk x = new Greentrunk();
    x.test(4095, 1, 0);
    int made = 0;
    for (int team = 0; team < 3; team++) {
      for (int i = 0; i < uses[team]; i++) {
        Due.queued(x, team, 0, made % 12, 1 + made / 12);
        x.tick(2);
        made++;
      }
    }
    for (int team = 0; team < 3; team++) Due.eq("use of " + team, x.use(team), uses[team]);
    return x;
  }

  /** Which team is the next one behind the first batch, which is of the author 0; four batches are of the teams 0, 0, 1, 2. */
  private static int nextTeam(int[] uses, int[] weights) {
    Greentrunk x = used(uses);
    for (int t = 0; t < 3; t++) x.weigh(t, weights[t]);
    x.batches(1, 4);
    x.come(1);
    int[] authors = {0, 0, 1, 2};
    for (int i = 0; i < 4; i++) Due.queued(x, authors[i], 0, 8 + i, 9);
    x.tick(1);
    for (int t = 2; t > 0; t--) if (x.use(t) != uses[t]) return t;
    return x.use(0) == uses[0] + 2 ? 0 : NONE;
  }

  private static void shares() {
    String where = "Terms, runs and machines";
    Edge.test(where, "the least use by its weight, compared exactly; of the same the lower number", () -> {
      int[][] all = {
        // uses, weights, and the team: the first batch makes the use of team 0 one more
        {0, 0, 0, 1, 1, 1, 1}, {0, 1, 1, 1, 1, 1, 0}, {0, 2, 1, 1, 1, 1, 0}, {1, 2, 1, 1, 1, 1, 2},
        {1, 3, 2, 1, 2, 1, 1}, {0, 2, 3, 1, 2, 3, 0}, {1, 2, 3, 1, 2, 3, 1}, {1, 3, 3, 1, 2, 3, 2},
        {0, 1, 10, 1, 1, 10, 0}, {0, 10, 10, 9, 10, 10, 0}, {4, 6, 7, 1, 4, 5, 2}, {4, 7, 9, 1, 3, 4, 2},
        {4, 9, 7, 1, 4, 3, 1}, {6, 4, 9, 10, 6, 10, 1}, {6, 7, 9, 10, 10, 10, 0}, {6, 7, 6, 10, 10, 10, 2},
        {0, 0, 0, 10, 1, 10, 1}, {2, 3, 3, 10, 10, 10, 0}, {9, 1, 1, 10, 1, 1, 0}, {9, 1, 0, 10, 1, 1, 2},
        {10, 1, 1, 10, 1, 1, 1}, {1, 5, 5, 2, 5, 5, 0}, {4, 6, 5, 7, 8, 7, 0}, {4, 5, 5, 7, 8, 7, 1},
      };
      for (int[] a : all) {
        int team = nextTeam(new int[] {a[0], a[1], a[2]}, new int[] {a[3], a[4], a[5]});
        Due.eq("uses " + a[0] + ", " + a[1] + ", " + a[2] + " by " + a[3] + ", " + a[4] + ", " + a[5], team, a[6]);
      }
    });
    Edge.test(where, "of those of which something is wanted: a team with less use that wants nothing is passed over", () -> {
      Greentrunk x = used(0, 5, 3);
      x.batches(1, 3);
      x.come(1);
      Due.queued(x, 2, 0, 8, 9);
      Due.queued(x, 1, 0, 9, 9);
      Due.queued(x, 1, 0, 10, 9);
      x.tick(1);
      Due.eq("team 1, though 0 has none and 2 less", x.use(1), 6);
      Due.eq("team 2 for the first batch", x.use(2), 4);
    });
    Edge.test(where, "first for the first batch, whatever its team has used", () -> {
      Greentrunk x = used(0, 8, 0);
      x.batches(1, 2);
      Due.queued(x, 1, 0, 8, 9);
      Due.queued(x, 0, 0, 9, 9);
      x.tick(1);
      Due.eq("team 1", x.use(1), 9);
      Due.eq("team 0 waits", x.use(0), 0);
    });
    Edge.test(where, "a time of 1 less if the test that it ran last was the same, but at least 1", () -> {
      for (int time : Edge.from(1, 6)) {
        Greentrunk x = new Greentrunk();
        x.test(1, time, 0);
        Due.queued(x, 2, 0, 0, 1);
        x.tick(1 + time);
        Due.eq("cold", x.use(2), time);
        Due.queued(x, 2, 0, 0, 2);
        int warm = time == 1 ? 1 : time - 1;
        x.tick(warm);
        Due.eq("warm", x.use(2), time + warm);
        Due.eq("not yet", x.commits(), 2);
        Due.eq("it lands", x.tick(1), 1);
      }
    });
    Edge.test(where, "what is run already, or stands ahead, is not wanted once more", () -> {
      Greentrunk x = new Greentrunk();
      x.test(1, 3, 0);
      x.batches(1, 4);
      for (int m = 1; m < 6; m++) x.come(m);
      Due.queued(x, 0, 0, 0, 1);
      for (int f = 1; f < 4; f++) Due.queued(x, f, 0, f, 1);
      x.line(0, ALWAYS, 0);
      x.fullRun();
      x.tick(1);
      Due.eq("machine 0 runs it for all four batches", x.running(0), 0);
      Due.eq("machine 1 runs it for the full run, on other contents", x.running(1), 0);
      for (int m = 2; m < 6; m++) Due.eq("machine " + m, x.running(m), NONE);
      Due.eq("the use is the first batch's", x.use(0) * 100 + x.use(1) * 10 + x.use(2), 300);
      Due.eq("all land", x.tick(3), 4);
      Due.eq("runs", x.runs(0), 2);
      Due.eq("the full run is over: the trunk has the contents of the first", x.fullFailed(), 0);
    });
  }

  private static void takingAndTelling() {
    String where = "Terms, runs and machines";
    Edge.test(where, "of the team of the author of its first change, in the order of the batch, that requires it", () -> {
      for (int first : Edge.from(0, 2)) {
        Greentrunk x = new Greentrunk();
        x.batches(3, 1);
        int files = 0;
        for (int i = first; i < 3; i++) files |= 1 << i;
        x.test(files, 4, 0);
        // queued with rising priorities: the last one made is the first of the order
        for (int i = 2; i >= 0; i--) Due.queued(x, i, 2 - i, i, 1);
        x.tick(1);
        for (int t = 0; t < 3; t++) Due.eq("those from " + first + " on require it: use of " + t, x.use(t), t == first ? 4 : 0);
      }
    });
    Edge.test(where, "each machine that is there and runs nothing, by rising numbers, takes the tests by rising numbers", () -> {
      Greentrunk x = Edge.tests(10);
      x.vanish(0);
      x.come(4);
      x.come(1);
      x.come(5);
      Due.queued(x, 0, 0, 0, 1);
      x.tick(1);
      int[] due = {NONE, 0, NONE, NONE, 1, 2};
      for (int m = 0; m < 6; m++) Due.eq("machine " + m, x.running(m), due[m]);
      x.come(0);
      x.tick(1);
      int[] then = {3, 4, NONE, NONE, 5, 6};
      for (int m = 0; m < 6; m++) Due.eq("machine " + m, x.running(m), then[m]);
    });
    Edge.test(where, "those that have done it, by rising numbers, tell their run: a quarantine holds for the next one", () -> {
      // of the degree 2, with 8 the draws are 0 and 9: it flakes; with 7: 1, 0 and 9: two fail
      for (boolean flakesFirst : new boolean[] {false, true}) {
        Greentrunk x = new Greentrunk();
        x.test(1, 1, 2);
        Due.queued(x, 0, 0, 0, 8);
        x.tick(3);
        x.revert(1, 0);
        x.tick(2);
        Due.eq("flaked once", x.flaked(0), 1);
        Due.eq("the trunk is 0 again", x.content(x.commits() - 1, 0), 0);
        x.outside(0, true);
        x.outside(0, false);
        x.come(1);
        x.batches(1, 2);
        int first = Due.queued(x, 0, 3, 0, flakesFirst ? 8 : 7);
        int second = Due.change(x, 0, first, 0, flakesFirst ? 7 : 8);
        x.queue(second, 0);
        x.tick(3);
        Due.is("in quarantine", x.isQuarantined(0));
        if (flakesFirst) {
          Due.eq("8 has landed", x.state(first), LANDED);
          Due.eq("7 failed twice, but the quarantine was there by then", x.tick(1), 1);
        } else {
          Due.eq("7 was FAILED ahead of the flake: the trunk is run", x.state(first), QUEUED);
          x.tick(1);
          Due.eq("RED", x.state(first), RED);
          Due.eq("DROPPED", x.state(second), DROPPED);
        }
      }
    });
  }

  // ---- promise 20

  private static void fullRun() {
    String where = "Promise 20, fullRun";
    Edge.test(where, "returns false if one is asked for already", () -> {
      Greentrunk x = Edge.tests(1);
      Due.is("asked for", x.fullRun());
      Due.not("already", x.fullRun());
      x.tick(1);
      Due.not("it is on", x.fullRun());
      x.tick(1);
      Due.eq("over", x.fullFailed(), 0);
      Due.is("asked for again", x.fullRun());
      Due.not("already", x.fullRun());
    });
    Edge.test(where, "without tests none is OPEN: it is over in the next tick, 0 have FAILED", () -> {
      Greentrunk x = new Greentrunk();
      x.fullRun();
      Due.eq("no tick yet", x.fullFailed(), NONE);
      x.tick(1);
      Due.eq("over", x.fullFailed(), 0);
      Due.is("asked for again", x.fullRun());
    });
    Edge.test(where, "it is told how many have FAILED: 0 to all of 10", () -> {
      for (int bad : Edge.from(0, 10)) {
        Greentrunk x = Edge.tests(10);
        for (int t = 0; t < bad; t++) x.outside(9 - t, true);
        x.fullRun();
        x.tick(10 + bad);
        Due.eq("not over yet", x.fullFailed(), NONE);
        x.tick(1);
        Due.eq("FAILED", x.fullFailed(), bad);
      }
    });
    Edge.test(where, "one OPEN test keeps it, be it the last", () -> {
      Greentrunk x = Edge.tests(10);
      x.fullRun();
      x.tick(10);
      x.outside(9, true);
      x.tick(2);
      Due.eq("the run of 9 told nothing; the next is the first that failed", x.fullFailed(), NONE);
      x.tick(1);
      Due.eq("now", x.fullFailed(), 1);
    });
    Edge.test(where, "all verdicts known: over in the next tick, without a run; the latest that is over is told", () -> {
      Greentrunk x = Edge.tests(3);
      x.outside(1, true);
      x.fullRun();
      x.tick(5);
      Due.eq("one FAILED", x.fullFailed(), 1);
      x.fullRun();
      x.vanish(0);
      x.tick(1);
      Due.is("it is over", x.fullRun());
      Due.eq("one FAILED", x.fullFailed(), 1);
      x.outside(1, false);
      x.tick(1);
      Due.eq("the latest that is over", x.fullFailed(), 1);
      x.come(0);
      x.tick(2);
      Due.eq("none FAILED", x.fullFailed(), 0);
    });
    Edge.test(where, "behind the deciding of a tick: on the trunk that is then", () -> {
      Greentrunk x = Edge.tests(1);
      x.breaks(0, 0, 0, 0, 0);
      x.fullRun();
      Due.queued(x, 0, 0, 0, 1);
      x.tick(1);
      Due.eq("the queue is ahead", x.fullFailed(), NONE);
      Due.eq("it lands", x.tick(1), 1);
      Due.eq("the new trunk has PASSED, in the same tick", x.fullFailed(), 0);
      Due.eq("the commit 0 is not looked at any more", x.verdict(0, 0), Edge.OPEN);
    });
    Edge.test(where, "the last of what is wanted: behind all batches, and while the trunk is broken", () -> {
      Greentrunk x = new Greentrunk();
      x.test(1, 1, 0);
      x.test(2, 1, 0);
      x.test(4, 1, 0);
      x.batches(1, 2);
      Due.queued(x, 0, 0, 2, 1);
      Due.queued(x, 0, 0, 1, 1);
      x.fullRun();
      x.tick(1);
      Due.eq("the first batch", x.running(0), 2);
      x.tick(1);
      Due.eq("the second, which is the first by now", x.running(0), 1);
      x.tick(1);
      Due.eq("then the full run", x.running(0), 0);
      x.tick(1);
      Due.eq("over, the others have their verdicts", x.fullFailed(), 0);
      Greentrunk y = Edge.tests(1);
      y.test(2, 1, 0);
      y.outside(0, true);
      Due.queued(y, 0, 0, 0, 1);
      y.fullRun();
      y.tick(5);
      Due.is("the trunk is broken", y.isBroken());
      Due.eq("the full run goes on", y.running(0), 1);
      y.tick(1);
      Due.eq("over", y.fullFailed(), 1);
    });
  }

  // ---- promise 21

  private static void tick() {
    String where = "Promise 21, tick";
    Edge.test(where, "ticks: 1 to 30", () -> {
      for (int n : Edge.from(1, 30)) {
        Greentrunk x = new Greentrunk();
        Due.eq("nothing lands", x.tick(n), 0);
        Due.eq("clock", x.clock(), n);
        x.tick(30);
        Due.eq("clock", x.clock(), n + 30);
      }
      Edge.Start start = () -> {
        Greentrunk x = Edge.tests(1);
        Due.queued(x, 0, 0, 0, 1);
        return x;
      };
      for (int n : Edge.outside(1, 30)) Edge.argument("ticks " + n, start, g -> g.tick(n));
    });
    Edge.test(where, "returns how many changes are LANDED by that: 0, 1, 8 of a batch, all of 60", () -> {
      Edge.takes("none", Greentrunk::new, g -> g.tick(1), 0);
      Edge.takes("a DRAFT", () -> Edge.changeIn(Edge.DRAFT), g -> g.tick(30), 0);
      Edge.takes("one", () -> Edge.changeIn(QUEUED), g -> g.tick(1), 1);
      Edge.takes("one, in 30 ticks", () -> Edge.changeIn(QUEUED), g -> g.tick(30), 1);
      Edge.takes("60, one behind the other in one tick", () -> stack(60), g -> g.tick(1), 60);
      Greentrunk x = stack(60);
      x.batches(8, 1);
      x.test(1, 1, 0);
      Due.eq("8 in two ticks", x.tick(2), 8);
      Due.eq("the next 8", x.tick(1), 8);
      x.outside(0, true);
      Due.eq("those that are not LANDED do not count", x.tick(30), 0);
    });
    Edge.test(where, "many ticks are as many single ones", () -> {
      for (int seed = 0; seed < 20; seed++) {
        Greentrunk once = busy(seed), singly = busy(seed);
        int landed = 0;
        for (int i = 0; i < 30; i++) landed += singly.tick(1);
        Due.eq("LANDED", once.tick(30), landed);
        Due.is("the same", Due.all(once).equals(Due.all(singly)));
      }
    });
  }

  /** The machine 0 has run test 0 of 6 ticks for a change of file 0 since 2 ticks, the machine 1 idles. */
  private static Greentrunk idling() {
    Greentrunk x = new Greentrunk();
    x.test(1, 6, 0);
    x.come(1);
    Due.queued(x, 0, 0, 0, 1);
    Due.queued(x, 1, 0, 5, 1);
    x.tick(3);
    Due.eq("machine 0 runs it", x.running(0), 0);
    Due.eq("machine 1 idles", x.running(1), NONE);
    return x;
  }

  private static void untilTheNextTick() {
    String where = "Promise 21, tick";
    Edge.test(where, "what was called since the last tick, even if that changed nothing, counts in the next one", () -> {
      Edge.takes("nothing", EdgeQueueTest::idling, g -> g.tick(1) * 10 + g.running(1), NONE);
      Edge.takes("test", EdgeQueueTest::idling, g -> g.test(1, 1, 0) * 100 + g.tick(1) * 10 + g.running(1), 101);
      Edge.takes("breaks", EdgeQueueTest::idling, g -> g.breaks(0, 0, 9, 0, 9) * 100 + g.tick(1) * 10 + g.running(1), 100);
      Edge.takes("outside", EdgeQueueTest::idling, g -> Edge.bit(g.outside(0, true)) + g.tick(1) * 10 + g.running(1), 0);
      Edge.takes("fullRun", EdgeQueueTest::idling, g -> Edge.bit(g.fullRun()) * 100 + g.tick(1) * 10 + g.running(1), 100);
      Edge.takes("vanish", EdgeQueueTest::idling, g -> Edge.bit(g.vanish(0)) * 100 + g.tick(1) * 10 + g.running(1), 100);
      Edge.takes("drop", EdgeQueueTest::idling, g -> g.drop(0) * 100 + g.tick(1) * 10 + g.state(1), 100 + 10 + LANDED);
      Edge.takes("queue", EdgeQueueTest::idling, g -> {
        Due.queued(g, 0, 3, 7, 7);
        return g.tick(1);
      }, 1);
      Edge.takes("line", () -> {
        Greentrunk x = idling();
        x.test(2, 1, 0);
        x.tick(1);
        return x;
      }, g -> g.line(1, ALWAYS, 0) * 100 + g.tick(1) * 10 + g.running(1), 101);
      Edge.takes("batches", () -> {
        Greentrunk x = idling();
        x.test(1 << 5, 1, 0);
        x.tick(1);
        return x;
      }, g -> g.batches(1, 2) * 100 + g.tick(1) * 10 + g.running(1), 1101);
      Edge.takes("come", () -> {
        Greentrunk x = idling();
        x.vanish(1);
        x.test(1, 1, 0);
        x.tick(1);
        return x;
      }, g -> Edge.bit(g.come(1)) * 100 + g.tick(1) * 10 + g.running(1), 101);
      Edge.takes("revert", () -> {
        Greentrunk x = new Greentrunk();
        Due.queued(x, 0, 0, 9, 9);
        x.tick(1);
        x.test(1, 6, 0);
        Due.queued(x, 0, 3, 0, 1);
        x.tick(2);
        return x;
      }, g -> g.revert(1, 0) * 100 + g.tick(1), 201);
    });
    Edge.test(where, "an empty queue wants nothing, whatever was looked at ahead", () -> {
      Greentrunk x = Edge.tests(2);
      x.breaks(0, 0, 1, 0, 1);
      x.breaks(1, 0, 1, 0, 1);
      x.come(1);
      int c = Due.queued(x, 0, 0, 0, 1);
      x.tick(3);
      Due.eq("both FAILED: test 1 is run on the trunk", x.running(1), 1);
      x.vanish(1);
      x.tick(1);
      Due.eq("test 0 has PASSED there", x.state(c), RED);
      Due.eq("test 1 is not wanted any more", x.running(0), NONE);
      x.tick(30);
      Due.eq("nor is it later", x.runs(1), 2);
    });
    Edge.test("Terms, runs and machines", "10 tests for each of 4 batches: the last ones are wanted as well", () -> {
      Greentrunk x = new Greentrunk();
      for (int t = 0; t < 10; t++) x.test(4095, 6, 0);
      x.batches(1, 4);
      for (int m = 1; m < 6; m++) x.come(m);
      for (int i = 0; i < 4; i++) Due.queued(x, i == 3 ? 2 : 0, 0, i, 1);
      x.tick(7);
      Due.eq("the first batch", x.use(0), 60);
      Due.eq("two machines are left: test 0", x.running(4), 0);
      Due.eq("and test 1", x.running(5), 1);
      Due.eq("of the fourth batch, as its team has the least use", x.use(2), 12);
    });
  }

  private static Greentrunk busy(int seed) {
    Greentrunk x = new Greentrunk();
    x.batches(1 + seed % 8, 1 + seed % 4);
    for (int t = 0; t < 4; t++) x.test(7 << t * 2, 1 + (t + seed) % 6, (t * 3 + seed) % 5);
    x.breaks(1, 2, 1 + seed % 3, 2, 1 + seed % 3);
    for (int m = 0; m < seed % 4; m++) x.come(m + 1);
    for (int i = 0; i < 20; i++) {
      Due.queued(x, (i + seed) % 8, i % 4, i % 9, 1 + (i + seed) % 3);
    }
    x.fullRun();
    return x;
  }

  // ---- Terms: the queue

  private static void order() {
    String where = "Terms, the queue";
    Edge.test(where, "reverts ahead of others, the greater priority, 0 to 3, the one queued earlier", () -> {
      Greentrunk x = new Greentrunk();
      Due.queued(x, 0, 0, 11, 1);
      x.tick(1);
      List<Integer> due = new ArrayList<>();
      for (int round = 0; round < 2; round++) {
        for (int p = 0; p < 4; p++) Due.queued(x, 0, p, round * 4 + p, 1);
      }
      for (int p = 3; p >= 0; p--) {
        due.add(1 + p);
        due.add(5 + p);
      }
      due.add(0, x.revert(1, 0));
      due.add(1, x.revert(1, 0));
      for (int i = 0; i < due.size(); i++) Due.eq("place " + i, x.queuedAt(i), due.get(i));
      Due.eq("no more", x.queued(), due.size());
    });
    Edge.test(where, "queued earlier, not made earlier", () -> {
      Greentrunk x = Edge.drafts(3);
      x.queue(2, 1);
      x.queue(0, 1);
      x.queue(1, 1);
      Due.eq("first", x.queuedAt(0), 2);
      Due.eq("second", x.queuedAt(1), 0);
      Due.eq("third", x.queuedAt(2), 1);
    });
    Edge.test(where, "whose parent is none of these: a child is behind its parent, and free as soon as that is taken", () -> {
      Greentrunk x = new Greentrunk();
      int low = Due.queued(x, 0, 0, 0, 1), mid = Due.queued(x, 0, 1, 1, 1);
      int child = Due.change(x, 0, mid, 2, 1), deep = Due.change(x, 0, child, 3, 1);
      x.queue(child, 3);
      x.queue(deep, 0);
      int mate = Due.queued(x, 0, 1, 4, 1);
      int[] due = {mid, child, mate, low, deep};
      for (int i = 0; i < due.length; i++) Due.eq("place " + i, x.queuedAt(i), due[i]);
    });
    Edge.test(where, "a child of a revert is none: it is behind all reverts, by its priority", () -> {
      Greentrunk x = new Greentrunk();
      Due.queued(x, 0, 0, 0, 1);
      x.tick(1);
      int other = Due.queued(x, 0, 1, 5, 1);
      int revert = x.revert(1, 0);
      int child = Due.change(x, 0, revert, 1, 1);
      x.queue(child, 1);
      Due.eq("the revert", x.queuedAt(0), revert);
      Due.eq("queued earlier", x.queuedAt(1), other);
      Due.eq("the child", x.queuedAt(2), child);
    });
    Edge.test(where, "all in the queue whose parent it is leave it, too, and so on: for RED, CLASHED and DROPPED", () -> {
      for (int s : new int[] {RED, CLASHED, DROPPED, LANDED}) {
        Greentrunk x = new Greentrunk();
        Due.change(x, 0, NONE, 0, 1);
        for (int i = 1; i < 5; i++) Due.change(x, 0, i - 1, i, 1);
        if (s == CLASHED) {
          Due.queued(x, 0, 0, 0, 2);
          x.tick(1);
        }
        if (s == RED) {
          x.test(1, 1, 0);
          x.breaks(0, 0, 1, 0, 1);
        }
        for (int i = 0; i < 4; i++) x.queue(i, 0);
        if (s == DROPPED) Due.eq("four leave", x.drop(0), 4);
        else x.tick(4);
        Due.eq("the lowest", x.state(0), s);
        for (int i = 1; i < 4; i++) Due.eq("on it", x.state(i), s == LANDED ? LANDED : DROPPED);
        Due.eq("a DRAFT stays", x.state(4), Edge.DRAFT);
      }
    });
    forming();
  }

  private static void forming() {
    String where = "Terms, the queue";
    Edge.test(where, "an empty queue has no batch, and nothing is broken", () -> {
      Greentrunk x = Edge.changeIn(Edge.DRAFT);
      x.batches(8, 4);
      Due.eq("in none", x.batchOf(0), NONE);
      Due.not("broken", x.isBroken());
      Due.eq("nothing lands", x.tick(1), 0);
    });
    Edge.test(where, "there are as many as the depth tells, less if nothing can be taken for one", () -> {
      Greentrunk x = new Greentrunk();
      x.batches(2, 4);
      for (int i = 0; i < 3; i++) Due.queued(x, 0, 0, i, 1);
      int never = Due.queued(x, 0, 0, 0, 2);
      int onIt = Due.change(x, 0, never, 5, 1);
      x.queue(onIt, 3);
      int last = Due.queued(x, 0, 0, 4, 1);
      int[] due = {0, 0, 1, NONE, NONE, 1};
      for (int i = 0; i < due.length; i++) Due.eq("batch of " + i, x.batchOf(i), due[i]);
      x.drop(last);
      Due.eq("half a batch", x.batchOf(2), 1);
      x.drop(2);
      Due.eq("what does not fit is in none, though two batches more could be", x.batchOf(never), NONE);
    });
    Edge.test(where, "whose parent is LANDED, or in this batch, or in one ahead, or in none", () -> {
      Greentrunk x = new Greentrunk();
      int landed = Due.change(x, 0, NONE, 0, 1), onLanded = Due.change(x, 0, landed, 1, 1);
      x.queue(landed, 0);
      x.tick(1);
      x.queue(onLanded, 0);
      int onThat = Due.change(x, 0, onLanded, 2, 1);
      x.queue(onThat, 0);
      Due.eq("its parent is LANDED", x.batchOf(onLanded), 0);
      Due.eq("a depth of 1", x.batchOf(onThat), NONE);
      x.batches(2, 1);
      Due.eq("its parent is in this batch", x.batchOf(onThat), 0);
      x.batches(1, 2);
      Due.eq("its parent is in one ahead", x.batchOf(onThat), 1);
    });
    Edge.test(where, "fits: what its base has in each of its files, whatever the others have", () -> {
      for (int later : Edge.from(0, 11)) {
        Greentrunk x = new Greentrunk();
        int c = Due.change(x, 0, NONE, 0, 5, 4, 5, 7, 5, 11, 5);
        Due.queued(x, 0, 0, later, 1);
        x.tick(1);
        x.queue(c, 0);
        boolean fits = later != 0 && later != 4 && later != 7 && later != 11;
        Due.eq("file " + later + " is another now", x.batchOf(c), fits ? 0 : NONE);
        Due.eq("it lands", x.tick(1), fits ? 1 : 0);
        Due.eq("or clashes", x.state(c), fits ? LANDED : CLASHED);
      }
    });
    Edge.test(where, "to put it onto a tree is to give its files its contents, and no others", () -> {
      Greentrunk x = new Greentrunk();
      int parent = Due.change(x, 0, NONE, 0, 1, 5, 9);
      int child = Due.change(x, 0, parent, 1, 1);
      x.queue(parent, 0);
      x.tick(1);
      x.queue(x.revert(1, 0) > 0 ? child : parent, 0);
      Due.eq("both land, the revert first", x.tick(1), 2);
      Due.eq("file 5 is as before its parent", x.content(3, 5), 0);
      Due.eq("file 1 is its own", x.content(3, 1), 1);
    });
  }

  // ---- Terms: to decide

  private static void deciding() {
    String where = "Terms, to decide";
    Edge.test(where, "again and again, until nothing of it can be done: 60 in one tick", () -> {
      Greentrunk x = Edge.drafts(60);
      for (int i = 0; i < 60; i++) x.queue(i, 0);
      Due.eq("one lands", x.tick(1), 1);
      for (int i = 1; i < 60; i++) Due.eq("the others clash", x.state(i), CLASHED);
      Due.eq("none is left", x.queued(), 0);
    });
    Edge.test(where, "if the first change of the order does not fit the trunk, it is CLASHED; one behind it is not", () -> {
      Greentrunk x = new Greentrunk();
      x.test(2, 6, 0);
      int other = Due.change(x, 0, NONE, 0, 2);
      Due.queued(x, 0, 0, 0, 1);
      x.tick(1);
      int first = Due.queued(x, 0, 3, 1, 1);
      x.queue(other, 0);
      x.tick(6);
      Due.eq("behind the first one", x.state(other), QUEUED);
      x.tick(1);
      Due.eq("the first lands", x.state(first), LANDED);
      Due.eq("then it is the first one", x.state(other), CLASHED);
    });
    Edge.test(where, "the batch lands as one commit more, with the tree behind it", () -> {
      for (int size : Edge.from(1, 8)) {
        Greentrunk x = new Greentrunk();
        x.batches(size, 1);
        x.test(4095, 1, 0);
        for (int i = 0; i < 9; i++) Due.queued(x, 0, 0, i, 1);
        Due.eq("a batch of " + size, x.tick(2), size);
        Due.eq("commits", x.commits(), 2);
        for (int i = 0; i < 9; i++) {
          Due.eq("landed by", x.landedBy(i), i < size ? 1 : NONE);
          Due.eq("content", x.content(1, i), i < size ? 1 : 0);
        }
      }
    });
    bisecting();
  }

  /** Runs, of a batch with these weights, whose change number bad breaks the only test; by the words of the document. */
  private static int runsUntilRed(int[] weights, int bad) {
    int runs = 2, low = 0, high = weights.length;
    boolean isGoodKnown = false;
    while (high - low > 1) {
      int all = 0, some = 0, next = high - 1;
      for (int i = low; i < high; i++) all += weights[i];
      for (int k = low + 1; k < high; k++) {
        some += weights[k - 1];
        if (some + some >= all) {
          next = k;
          break;
        }
      }
      if (next > bad) {
        high = next;
        runs += 2;
      } else {
        low = next;
        isGoodKnown = true;
        runs += 1;
      }
    }
    return isGoodKnown ? runs : runs + 1;
  }

  /** Blames author a as often as blames[a] tells; the test 0 is broken with 9 in file 11, and has PASSED without. */
  private static Greentrunk blamed(int... blames) {
    Greentrunk x = new Greentrunk();
    x.test(4095, 1, 0);
    x.breaks(0, 11, 9, 11, 9);
    for (int a = 0; a < blames.length; a++) {
      for (int i = 0; i < blames[a]; i++) {
        Due.queued(x, a, 0, 11, 9);
        x.tick(5);
      }
      Due.eq("blame of " + a, x.blame(a), blames[a]);
    }
    return x;
  }

  private static void bisect(int[] authors, int[] blames, int bad) {
    Greentrunk x = blamed(blames);
    x.breaks(0, 0, 8, 0, 8);
    int n = authors.length, start = x.changes();
    x.batches(n, 1);
    int[] weights = new int[n];
    for (int i = 0; i < n; i++) {
      weights[i] = 1 + blames[authors[i]];
      if (i == bad) Due.queued(x, authors[i], 0, 0, 8);
      else Due.queued(x, authors[i], 0, 1 + i, 7);
    }
    int runs = runsUntilRed(weights, bad);
    String what = n + " changes, bad is " + bad;
    x.tick(runs);
    Due.eq(what + ": a tick ahead", x.state(start + bad), QUEUED);
    x.tick(1);
    Due.eq(what + ": RED", x.state(start + bad), RED);
    Due.eq(what + ": runs", x.runs(0), runs);
    Due.eq(what + ": blame", x.blame(authors[bad]), blames[authors[bad]] + 1);
    x.tick(30);
    for (int i = 0; i < n; i++) Due.eq(what + ": state of " + i, x.state(start + i), i == bad ? RED : LANDED);
  }

  /** The tests 0 to 8 are required always and FAILED on the trunk; the test 9 FAILED with 1 in file 1, and PASSED on the trunk. */
  private static Greentrunk nineOutside() {
    Greentrunk x = Edge.tests(9);
    x.test(2, 1, 0);
    for (int t = 0; t < 10; t++) x.line(t, ALWAYS, 0);
    x.breaks(9, 1, 1, 1, 1);
    int first = Due.queued(x, 7, 0, 1, 1);
    x.tick(12);
    Due.eq("test 9 has failed twice", x.runs(9), 2);
    x.drop(first);
    x.vanish(0);
    x.come(0);
    for (int t = 0; t < 9; t++) x.outside(t, true);
    x.fullRun();
    x.tick(20);
    Due.eq("nine FAILED on the trunk", x.fullFailed(), 9);
    return x;
  }

  private static void bisecting() {
    String where = "Terms, to bisect";
    Edge.test(where, "batches of 1 to 8, each of them bad, weights of 1", () -> {
      for (int n : Edge.from(1, 8)) {
        for (int bad = 0; bad < n; bad++) bisect(new int[n], new int[8], bad);
      }
    });
    Edge.test(where, "at least half: just half, a bit less, a bit more; if there is none, one less than the bad one", () -> {
      int[][][] all = {
        // authors, blames
        {{0, 1, 2}, {1, 0, 0}}, {{0, 1, 2}, {0, 0, 1}}, {{0, 1, 2}, {0, 0, 2}}, {{0, 1, 2}, {0, 1, 0}}, {{0, 1, 2}, {2, 0, 0}},
        {{0, 1, 2, 3}, {0, 0, 0, 1}}, {{0, 1, 2, 3}, {0, 0, 0, 2}}, {{0, 1, 2, 3}, {0, 0, 0, 3}}, {{0, 1, 2, 3}, {2, 0, 0, 0}},
        {{0, 1, 2, 3}, {3, 0, 0, 0}}, {{0, 1, 2, 3}, {1, 0, 0, 0}}, {{0, 1, 2, 3}, {0, 3, 0, 0}}, {{0, 1, 1, 0, 1}, {3, 1}},
        {{0, 1, 2, 3, 4, 5, 6, 7}, {0, 0, 0, 0, 0, 0, 0, 6}}, {{0, 1, 2, 3, 4, 5, 6, 7}, {0, 0, 0, 0, 0, 0, 0, 7}},
        {{0, 1, 2, 3, 4, 5, 6, 7}, {6, 0, 0, 0, 0, 0, 0, 0}}, {{0, 1, 2, 3, 4, 5, 6, 7}, {1, 2, 0, 3, 0, 1, 2, 0}},
        {{0, 1}, {5, 0}}, {{0, 1}, {0, 5}}, {{7, 7, 7, 7}, {0, 0, 0, 0, 0, 0, 0, 4}},
      };
      for (int[][] a : all) {
        int[] blames = java.util.Arrays.copyOf(a[1], 8);
        for (int bad = 0; bad < a[0].length; bad++) bisect(a[0], blames, bad);
      }
    });
    Edge.test(where, "blamed if some test that FAILED for it has PASSED behind the good beginning, be it the last of 10", () -> {
      Greentrunk x = nineOutside();
      int c = Due.queued(x, 0, 0, 1, 1);
      x.tick(1);
      Due.eq("nine have FAILED on the trunk as well, the last has PASSED there", x.state(c), RED);
      Due.eq("blamed", x.blame(0), 1);
    });
    Edge.test(where, "all that FAILED have FAILED there as well: the trunk is broken, and nothing is done", () -> {
      Greentrunk x = nineOutside();
      x.outside(9, true);
      x.fullRun();
      x.tick(3);
      Due.eq("all FAILED on the trunk", x.fullFailed(), 10);
      int c = Due.queued(x, 0, 0, 2, 1);
      Due.is("broken, by what is known now", x.isBroken());
      x.tick(30);
      Due.is("and still", x.isBroken());
      Due.eq("nobody is RED", x.state(c), QUEUED);
      Due.eq("nobody is blamed", x.blame(0), 0);
      Due.eq("nothing runs", x.running(0), NONE);
      Due.not("it would not land", x.wouldLand(c));
    });
    Edge.test(where, "some OPEN, none PASSED: nothing is done now, and it is not broken", () -> {
      Greentrunk x = Edge.tests(2);
      x.outside(0, true);
      x.outside(1, true);
      x.come(1);
      int c = Due.queued(x, 0, 0, 0, 1);
      x.tick(3);
      x.vanish(1);
      for (int runs : Edge.from(4, 7)) {
        Due.eq("runs", x.runs(0) + x.runs(1), runs);
        Due.not("broken after " + runs, x.isBroken());
        Due.eq("QUEUED", x.state(c), QUEUED);
        x.tick(1);
      }
      Due.is("all have FAILED there", x.isBroken());
      Due.eq("QUEUED", x.state(c), QUEUED);
      Due.eq("nothing runs", x.running(0), NONE);
    });
    Edge.test(where, "unless the first batch has FAILED the further ones are wanted, else they are not", () -> {
      Greentrunk x = new Greentrunk();
      x.test(1, 1, 0);
      x.test(2, 3, 0);
      x.breaks(0, 0, 1, 0, 1);
      x.batches(1, 2);
      Due.queued(x, 0, 0, 0, 1);
      Due.queued(x, 0, 0, 1, 1);
      x.tick(3);
      Due.eq("FAILED", x.runs(0), 2);
      x.come(1);
      x.tick(1);
      Due.eq("RED by the trunk's verdict, the next batch is on", x.running(0) * 10 + x.running(1), 10 + NONE);
      Greentrunk y = new Greentrunk();
      y.test(1, 4, 0);
      y.test(2, 1, 0);
      y.outside(0, true);
      y.batches(1, 2);
      Due.queued(y, 0, 0, 0, 1);
      Due.queued(y, 0, 0, 1, 1);
      y.tick(8);
      Due.eq("FAILED: the trunk is run", y.running(0), 0);
      y.come(1);
      y.tick(1);
      Due.eq("the second batch is not", y.running(1), NONE);
      y.outside(0, false);
      y.come(2);
      y.tick(1);
      Due.eq("it is OPEN again: what it wants is run", y.running(1), 0);
      Due.eq("and what the second batch wants", y.running(2), 1);
    });
  }

  // ---- calls

  private static void calls() {
    Edge.test("What it is", "an object is used for at most 512 calls: the 512th is answered like any other", () -> {
      Greentrunk x = new Greentrunk();
      x.test(4095, 1, 0);
      int calls = 2;
      boolean isBroken = false;
      while (calls < 510) {
        isBroken = !isBroken;
        x.outside(0, isBroken);
        x.tick(30);
        calls += 2;
      }
      Due.is("the 511th", x.fullRun());
      x.tick(30);
      Due.eq("behind it", x.fullFailed(), isBroken ? 1 : 0);
      Due.eq("clock", x.clock(), 255 * 30);
      Due.eq("runs", x.runs(0), isBroken ? 2 : 1);
    });
  }

  public static void main(String[] args) {
    batches();
    machines();
    weigh();
    takingAndTelling();
    fullRun();
    tick();
    untilTheNextTick();
    order();
    deciding();
    calls();
    Edge.end("EdgeQueueTest");
  }
}
