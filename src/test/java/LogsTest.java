/** Promises 42 to 45: logs. */
public final class LogsTest {
  private static final int CUT = Greentrunk.CUT;

  /** The log as it is shown, a cut out digit as x. */
  private static String seen(Greentrunk x) {
    StringBuilder s = new StringBuilder();
    for (int i = 0; i < x.shown(); i++) s.append(x.logAt(i) == CUT ? "x" : String.valueOf(x.logAt(i)));
    return s.toString();
  }

  private static void shows(String what, Greentrunk x, String want) {
    Due.checked++;
    if (!seen(x).equals(want)) Due.fail(what + " is shown as " + seen(x) + ", due is " + want);
  }

  private static void promise42() {
    Greentrunk x = new Greentrunk();
    Due.index("secret -1", x, g -> g.secret(-1, 1, 1));
    Due.index("secret 3", x, g -> g.secret(3, 1, 2));
    Due.argument("1 digit", x, g -> g.secret(0, 1, 1));
    Due.argument("7 digits", x, g -> g.secret(0, 1, 7));
    Due.argument("digits below 0", x, g -> g.secret(0, -1, 2));
    Due.argument("3 digits of 2", x, g -> g.secret(0, 100, 2));
    Due.argument("7 digits of 6", x, g -> g.secret(0, 1000000, 6));
    Due.eq("one", x.secret(2, 99, 2), 1);
    Due.eq("in its place", x.secret(2, 7, 2), 1);
    Due.eq("two", x.secret(0, 999999, 6), 2);
    Due.eq("three", x.secret(1, 123, 3), 3);
    Due.eq("in its place", x.secret(1, 0, 4), 3);
    x.log(799, 3);
    shows("07 with a zero ahead, 7 alone is none", x, "7");
    x.log(74, 2);
    shows("99 is a beginning no more", x, "79974");
    x.log(74, 3);
    shows("07 stands there", x, "79974xx4");
  }

  private static void promise43() {
    Greentrunk x = new Greentrunk();
    Due.argument("no digits", x, g -> g.log(0, 0));
    Due.argument("7 digits", x, g -> g.log(0, 7));
    Due.argument("digits below 0", x, g -> g.log(-1, 3));
    Due.argument("2 digits of 1", x, g -> g.log(10, 1));
    Due.argument("7 digits of 6", x, g -> g.log(1000000, 6));
    Due.eq("1 digit", x.log(9, 1), 1);
    Due.eq("6 digits", x.log(1234, 6), 7);
    shows("zeros ahead", x, "9001234");
    for (int i = 0; i < 32; i++) x.log(999999, 6);
    Due.eq("199", x.shown(), 199);
    Due.state("201", x, g -> g.log(0, 2));
    Due.argument("an argument ahead of the state", x, g -> g.log(100, 2));
    Due.eq("200", x.log(5, 1), 200);
    Due.state("201", x, g -> g.log(0, 1));
    Due.eq("the last one", x.logAt(199), 5);
    x.secret(0, 95, 2);
    Due.eq("the secret at the end", x.logAt(199), CUT);
    Due.eq("its first digit", x.logAt(198), CUT);
    Due.eq("the one ahead", x.logAt(197), 9);
  }

  private static void promise44() {
    Greentrunk x = new Greentrunk();
    Due.eq("none", x.shown(), 0);
    x.log(121, 3);
    Due.eq("without secrets all is shown", x.shown(), 3);
    x.secret(0, 1213, 4);
    Due.eq("it could begin at 0", x.shown(), 0);
    Due.eq("it could begin at 2", x.log(21, 2), 2);
    Due.eq("and still", x.shown(), 2);
    Due.eq("now it is whole", x.log(3, 1), 6);
    shows("1213 is cut out, and 12 is not", x, "12xxxx");
    x.secret(0, 33, 2);
    Due.eq("another in its place: 3 at the end could be its beginning", x.shown(), 5);
    shows("what was the secret is none any more", x, "12121");

    x = new Greentrunk();
    x.secret(0, 11, 2);
    Due.eq("1", x.log(1, 1), 0);
    Due.eq("the second 1 could begin one more", x.log(1, 1), 1);
    shows("but the first is cut out", x, "x");
    Due.eq("4 ends it", x.log(4, 1), 3);
    shows("both are cut out", x, "xx4");

    x = new Greentrunk();
    x.secret(0, 123456, 6);
    x.secret(1, 23, 2);
    x.secret(2, 57, 2);
    Due.eq("the longest beginning", x.log(12345, 5), 0);
    Due.eq("12345 7", x.log(7, 1), 6);
    shows("two others stand in it", x, "1xx4xx");
  }

  private static void promise45() {
    Greentrunk x = new Greentrunk();
    Due.index("nothing is shown", x, g -> g.logAt(0));
    x.log(12312, 5);
    Due.index("place -1", x, g -> g.logAt(-1));
    Due.index("place 5", x, g -> g.logAt(5));
    shows("no secret", x, "12312");
    x.secret(0, 231, 3);
    shows("told later; 2 at the end is hidden", x, "1xxx");
    Due.index("hidden", x, g -> g.logAt(4));
    x.secret(1, 123, 3);
    shows("they overlap; 12 at the end is hidden", x, "xxx");
    x.log(9, 1);
    shows("all", x, "xxxx29");
    x.secret(0, 999, 3);
    x.log(8, 1);
    shows("one less", x, "xxx1298");

    x = new Greentrunk();
    x.secret(0, 121, 3);
    x.log(12121, 5);
    x.log(0, 1);
    shows("a secret overlaps itself", x, "xxxxx0");
    x.log(12, 3);
    x.log(0, 1);
    shows("a part is none", x, "xxxxx00120");
    x = new Greentrunk();
    x.log(34, 2);
    x.secret(2, 3456, 4);
    x.log(56, 2);
    shows("over two pieces", x, "xxxx");
  }

  public static void main(String[] args) {
    promise42();
    promise43();
    promise44();
    promise45();
    Due.end("LogsTest");
  }
}
