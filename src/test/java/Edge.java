import java.util.Arrays;

/**
 * For the tests of boundaries: one test for each sentence of the document that names one, told by a line of its own.
 * What is refused is tried on an object that is made for it, and compared with one on which it was not tried: by all
 * that can be asked, and by what shows only in later calls.
 */
final class Edge {
  interface Test { void run(); }
  interface Start { Greentrunk made(); }
  interface Ask { long of(Greentrunk x); }

  static final int NONE = Greentrunk.NONE;
  static final int DRAFT = Greentrunk.DRAFT, QUEUED = Greentrunk.QUEUED, LANDED = Greentrunk.LANDED;
  static final int RED = Greentrunk.RED, CLASHED = Greentrunk.CLASHED, DROPPED = Greentrunk.DROPPED;
  static final int OPEN = Greentrunk.OPEN, PASSED = Greentrunk.PASSED, FAILED = Greentrunk.FAILED;
  static final int ALWAYS = Greentrunk.ALWAYS, TOUCHES = Greentrunk.TOUCHES, BY = Greentrunk.BY;
  static final int LEAST = Integer.MIN_VALUE, GREATEST = Integer.MAX_VALUE;

  private static int sentences = 0;

  private Edge() { }

  /** The test of one sentence; where is its promise or the part of "Terms" that it stands in. */
  static void test(String where, String sentence, Test test) {
    int checkedBefore = Due.checked, wrongBefore = Due.wrong;
    sentences++;
    try {
      test.run();
    } catch (RuntimeException e) {
      Due.fail(where + ": " + sentence + ": " + e + " at " + e.getStackTrace()[0]);
    }
    int answers = Due.checked - checkedBefore;
    if (answers == 0) Due.fail(where + ": " + sentence + ": nothing was compared");
    String how = Due.wrong == wrongBefore ? "  holds  " : "  BROKEN ";
    System.out.println(how + where + ": " + sentence + " (" + answers + ")");
  }

  static void end(String name) {
    System.out.println(name + ": " + sentences + " sentences");
    Due.end(name);
  }

  /** Numbers just outside of a range, the least and the greatest int, and some that bits could mistake for one inside. */
  static int[] outside(int least, int most) {
    int[] all = {least - 1, most + 1, LEAST, GREATEST, least - 2, most + 2, least + 16, least + 32, least + 64,
        least + 256, least + 65536, LEAST + least, LEAST + most, -most - 1, most + 1000};
    return Arrays.stream(all).filter(i -> i < least || i > most).distinct().toArray();
  }

  /** The same without NONE, where that is taken. */
  static int[] outsideButNone(int least, int most) {
    return Arrays.stream(outside(least, most)).filter(i -> i != NONE).toArray();
  }

  static int[] from(int least, int most) {
    int[] all = new int[most - least + 1];
    for (int i = 0; i < all.length; i++) all[i] = least + i;
    return all;
  }

  // ---- what is answered, and what is refused

  static void takes(String what, Start start, Ask ask, long want) {
    try {
      Due.eq(what, ask.of(start.made()), want);
    } catch (RuntimeException e) {
      Due.fail(what + " throws " + e.getClass().getName() + ", due is " + want);
    }
  }

  static void index(String what, Start start, Due.Call call) {
    refuses(what, start, IndexOutOfBoundsException.class, call);
  }

  static void argument(String what, Start start, Due.Call call) {
    refuses(what, start, IllegalArgumentException.class, call);
  }

  static void state(String what, Start start, Due.Call call) {
    refuses(what, start, IllegalStateException.class, call);
  }

  private static void refuses(String what, Start start, Class<? extends RuntimeException> want, Due.Call call) {
    Greentrunk tried = start.made(), other = start.made();
    Due.refuses(what, tried, want, call);
    Due.checked++;
    if (!later(tried).equals(later(other))) Due.fail(what + " throws, and changes what later calls answer");
  }

  private static void tell(StringBuilder s, Greentrunk x, Ask ask) {
    try {
      s.append(ask.of(x));
    } catch (IndexOutOfBoundsException e) {
      s.append("index");
    } catch (IllegalArgumentException e) {
      s.append("argument");
    } catch (IllegalStateException e) {
      s.append("state");
    }
    s.append(' ');
  }

  static long bit(boolean is) {
    return is ? 1 : 0;
  }

  /** What is held without being shown, told by calls that go on from there; the object is of no use then. */
  private static String later(Greentrunk x) {
    StringBuilder s = new StringBuilder();
    begunLater(s, x);
    for (int c = 0; c < x.changes(); c++) approvedLater(s, x, c);
    s.append("\nowners ");
    for (int file = 0; file < 12; file++) {
      int f = file;
      tell(s, x, g -> g.own(f, NONE));
    }
    s.append("\nunowned ");
    for (int c = 0; c < x.changes(); c++) approvedLater(s, x, c);
    s.append("\nlog ");
    for (int i = 0; i < 100; i++) {
      int digits = i * 37 % 100;
      tell(s, x, g -> g.log(digits, 2));
    }
    tell(s, x, g -> g.log(5, 1));
    s.append('\n').append(Due.all(x)).append("\nticks ");
    for (int i = 0; i < 4; i++) tell(s, x, g -> g.tick(1));
    tell(s, x, g -> g.tick(30));
    s.append('\n').append(Due.all(x)).append("\nsettings ");
    settingsLater(s, x);
    tell(s, x, g -> g.tick(30));
    return s.append('\n').append(Due.all(x)).toString();
  }

  /** What is begun, by making it, and a change that stands on it. */
  private static void begunLater(StringBuilder s, Greentrunk x) {
    s.append("begun ");
    tell(s, x, g -> g.make());
    tell(s, x, g -> g.edit(11, 9));
    tell(s, x, g -> g.make());
    tell(s, x, g -> bit(g.begin(1, NONE)));
    int n = x.changes();
    if (n > 0 && x.state(n - 1) == DRAFT) tell(s, x, g -> g.queue(n - 1, 3));
  }

  private static void approvedLater(StringBuilder s, Greentrunk x, int change) {
    tell(s, x, g -> bit(g.approve(change, 1)));
    tell(s, x, g -> g.rebase(change));
    tell(s, x, g -> g.queue(change, 1));
  }

  private static void settingsLater(StringBuilder s, Greentrunk x) {
    for (int team = 0; team < 3; team++) {
      int t = team;
      tell(s, x, g -> g.weigh(t, 1));
      tell(s, x, g -> g.secret(t, 0, 2));
    }
    tell(s, x, g -> g.batches(1, 1));
    for (int machine = 0; machine < 6; machine++) {
      int m = machine;
      tell(s, x, g -> bit(g.come(m)));
      tell(s, x, g -> bit(g.vanish(m)));
      tell(s, x, g -> bit(g.come(m)));
    }
    tell(s, x, g -> bit(g.fullRun()));
    for (int test = 0; test < 10; test++) {
      int t = test;
      tell(s, x, g -> bit(g.outside(t, false)));
      tell(s, x, g -> bit(g.letBack(t)));
      for (int file = 0; file < 12; file++) {
        int f = file;
        tell(s, x, g -> g.breaks(t, f, 9, f, 9));
      }
    }
    tell(s, x, g -> g.line(0, TOUCHES, 11));
    tell(s, x, g -> g.test(1, 1, 0));
  }

  // ---- objects to start from

  /** The change 0 of author 0, which gives file 0 the content 1, in a state; in a new object. */
  static Greentrunk changeIn(int state) {
    Greentrunk x = new Greentrunk();
    Due.change(x, 0, NONE, 0, 1);
    bring(x, state);
    return x;
  }

  /** The same with a child, the change 1, a DRAFT of author 1, which gives file 1 the content 1. */
  static Greentrunk childOfOneIn(int state) {
    Greentrunk x = new Greentrunk();
    Due.change(x, 0, NONE, 0, 1);
    Due.change(x, 1, 0, 1, 1);
    bring(x, state);
    return x;
  }

  private static void bring(Greentrunk x, int state) {
    if (state == CLASHED) {
      Due.queued(x, 0, 0, 0, 2);
      x.tick(1);
    }
    if (state == RED) {
      x.test(1, 1, 0);
      x.breaks(0, 0, 1, 0, 1);
    }
    if (state != DRAFT) x.queue(0, 0);
    if (state == DROPPED) x.drop(0);
    if (state == LANDED || state == CLASHED) x.tick(1);
    if (state == RED) x.tick(4);
    if (x.state(0) != state) Due.fail("the change to start from is " + x.state(0) + ", due is " + state);
  }

  static String nameOf(int state) {
    return new String[] {"DRAFT", "QUEUED", "LANDED", "RED", "CLASHED", "DROPPED"}[state];
  }

  /** As many drafts as told, each of file 0. */
  static Greentrunk drafts(int many) {
    Greentrunk x = new Greentrunk();
    for (int i = 0; i < many; i++) Due.change(x, i % 8, NONE, 0, 1 + i % 9);
    return x;
  }

  /** As many tests as told, each of file 0. */
  static Greentrunk tests(int many) {
    Greentrunk x = new Greentrunk();
    for (int i = 0; i < many; i++) x.test(1, 1, 0);
    return x;
  }
}
