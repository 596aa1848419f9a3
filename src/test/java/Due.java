/** What the tests of the promises share: what is due is compared, and what should be refused is tried. */
final class Due {
  interface Call { void on(Greentrunk x); }

  static int checked = 0;
  static int wrong = 0;

  private Due() { }

  static void fail(String what) {
    wrong++;
    System.out.println("not as due: " + what);
  }

  static void eq(String what, long got, long want) {
    checked++;
    if (got != want) fail(what + " answered " + got + ", due is " + want);
  }

  static void is(String what, boolean got) {
    eq(what, got ? 1 : 0, 1);
  }

  static void not(String what, boolean got) {
    eq(what, got ? 1 : 0, 0);
  }

  /** The call throws just this exception, and nothing that can be asked is another behind it. */
  static void refuses(String what, Greentrunk x, Class<? extends RuntimeException> want, Call call) {
    checked++;
    String before = all(x);
    try {
      call.on(x);
      fail(what + " throws nothing, due is " + want.getSimpleName());
    } catch (RuntimeException e) {
      if (e.getClass() != want) fail(what + " throws " + e.getClass().getName() + ", due is " + want.getSimpleName());
    }
    if (!all(x).equals(before)) fail(what + " throws, and changes something");
  }

  static void index(String what, Greentrunk x, Call call) {
    refuses(what, x, IndexOutOfBoundsException.class, call);
  }

  static void argument(String what, Greentrunk x, Call call) {
    refuses(what, x, IllegalArgumentException.class, call);
  }

  static void state(String what, Greentrunk x, Call call) {
    refuses(what, x, IllegalStateException.class, call);
  }

  /** All that can be asked, in a row. */
  static String all(Greentrunk x) {
    StringBuilder s = new StringBuilder();
    s.append(x.clock()).append(' ').append(x.changes()).append(' ').append(x.commits()).append(' ');
    s.append(x.fullFailed()).append(' ').append(x.isBroken()).append(' ').append(x.shown()).append('\n');
    for (int i = 0; i < x.queued(); i++) s.append(x.queuedAt(i)).append(',');
    for (int i = 0; i < x.changes(); i++) {
      s.append("\nchange ").append(x.state(i)).append(' ').append(x.requires(i)).append(' ').append(x.batchOf(i));
      s.append(' ').append(x.wouldLand(i)).append(' ').append(x.landedBy(i));
    }
    for (int c = 0; c < x.commits(); c++) {
      s.append("\ncommit ");
      for (int f = 0; f < 12; f++) s.append(x.content(c, f));
      for (int t = 0; t < tests(x); t++) s.append(' ').append(x.verdict(t, c));
    }
    for (int t = 0; t < tests(x); t++) {
      s.append("\ntest ").append(x.runs(t)).append(' ').append(x.flaked(t)).append(' ').append(x.isQuarantined(t));
    }
    s.append("\nothers ");
    for (int i = 0; i < 8; i++) s.append(x.blame(i)).append(' ');
    for (int i = 0; i < 6; i++) s.append(x.running(i)).append(' ');
    for (int i = 0; i < 3; i++) s.append(x.use(i)).append(' ');
    for (int i = 0; i < x.shown(); i++) s.append(x.logAt(i)).append(' ');
    return s.toString();
  }

  private static int tests(Greentrunk x) {
    int n = 0;
    try {
      while (n < 20) {
        x.runs(n);
        n++;
      }
    } catch (IndexOutOfBoundsException e) {
      return n;
    }
    return n;
  }

  /** Makes a change with edits, file and content by turns. */
  static int change(Greentrunk x, int author, int parent, int... edits) {
    x.begin(author, parent);
    for (int i = 0; i + 1 < edits.length; i += 2) x.edit(edits[i], edits[i + 1]);
    return x.make();
  }

  /** Makes a change without a parent, and queues it. */
  static int queued(Greentrunk x, int author, int priority, int... edits) {
    int c = change(x, author, Greentrunk.NONE, edits);
    x.queue(c, priority);
    return c;
  }

  static void end(String name) {
    System.out.println(name + ": " + checked + " answers compared, " + wrong + " not as due");
    if (wrong > 0) System.exit(1);
  }
}
