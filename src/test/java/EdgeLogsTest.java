/** The boundaries that promises 42 to 45 name, and those of "Terms": logs. */
public final class EdgeLogsTest {
  private static final int CUT = Greentrunk.CUT;
  private static final int[] MOST = {0, 9, 99, 999, 9999, 99999, 999999};

  /** The log as it is shown, a cut out digit as x. */
  private static String seen(Greentrunk x) {
    StringBuilder s = new StringBuilder();
    for (int i = 0; i < x.shown(); i++) s.append(x.logAt(i) == CUT ? "x" : String.valueOf(x.logAt(i)));
    return s.toString();
  }

  private static void shows(String what, Greentrunk x, String want) {
    Due.checked++;
    if (!seen(x).equals(want)) Due.fail(what + " is shown as " + seen(x) + ", due is " + want);
  }

  /** Secrets by their digits, in the row of their numbers, and pieces of the log. */
  private static Greentrunk log(String[] secrets, String... pieces) {
    Greentrunk x = new Greentrunk();
    for (int i = 0; i < secrets.length; i++) x.secret(i, Integer.parseInt(secrets[i]), secrets[i].length());
    for (String piece : pieces) x.log(Integer.parseInt(piece), piece.length());
    return x;
  }

  private static String[] of(String... secrets) {
    return secrets;
  }

  /** A log of as many digits as told, all 7. */
  private static Greentrunk digits(int many) {
    Greentrunk x = new Greentrunk();
    int left = many;
    while (left > 0) {
      int piece = Math.min(6, left);
      x.log(777777 / (int) Math.pow(10, 6 - piece), piece);
      left -= piece;
    }
    Due.eq("digits", x.shown(), many);
    return x;
  }

  private static Greentrunk twoSecrets() {
    return log(of("12", "777"), "1", "77");
  }

  // ---- promise 42

  private static void secret() {
    String where = "Promise 42, secret";
    Edge.test(where, "secret: 0 to 2", () -> {
      for (int s : Edge.from(0, 2)) {
        Greentrunk x = new Greentrunk();
        x.log(345, 3);
        Due.eq("secret " + s, x.secret(s, 34, 2), 1);
        shows("cut out by " + s, x, "xx5");
      }
      for (int s : Edge.outside(0, 2)) {
        Edge.index("secret " + s, EdgeLogsTest::twoSecrets, g -> g.secret(s, 77, 2));
        Edge.index("secret " + s, Greentrunk::new, g -> g.secret(s, 0, 6));
      }
    });
    Edge.test(where, "many: 2 to 6", () -> {
      for (int many : Edge.from(2, 6)) {
        Greentrunk x = digits(10);
        Due.eq("many " + many, x.secret(0, MOST[many] / 9 * 7, many), 1);
        shows("7 by 10, a secret of " + many, x, "xxxxxxxxxx".substring(0, 10 - many + 1));
        x.log(0, 1);
        shows("all", x, "xxxxxxxxxx0");
      }
      for (int many : Edge.outside(2, 6)) {
        Edge.argument("many " + many, EdgeLogsTest::twoSecrets, g -> g.secret(0, 0, many));
        Edge.argument("many " + many + ", one digit", EdgeLogsTest::twoSecrets, g -> g.secret(2, 7, many));
      }
    });
    Edge.test(where, "IllegalArgumentException if digits is below 0 or has more digits", () -> {
      for (int many : Edge.from(2, 6)) {
        Edge.takes("the least of " + many, Greentrunk::new, g -> g.secret(0, 0, many), 1);
        Edge.takes("the greatest of " + many, Greentrunk::new, g -> g.secret(0, MOST[many], many), 1);
        for (int digits : new int[] {-1, MOST[many] + 1, Edge.LEAST, Edge.GREATEST, -MOST[many], 10 * (MOST[many] + 1)}) {
          Edge.argument("digits " + digits + " of " + many, EdgeLogsTest::twoSecrets, g -> g.secret(1, digits, many));
        }
      }
    });
    Edge.test(where, "the secret comes ahead of the other arguments", () -> {
      Edge.index("secret and many", Greentrunk::new, g -> g.secret(3, 0, 1));
      Edge.index("secret and digits", Greentrunk::new, g -> g.secret(-1, -1, 2));
      Edge.argument("many and digits", Greentrunk::new, g -> g.secret(0, -1, 7));
    });
    Edge.test(where, "the first digit highest, with zeros ahead if need be", () -> {
      Greentrunk x = log(of("000000", "0012"), "001200", "0000");
      shows("a secret of zeros, and five that could begin one more", x, "xxxxx");
      x.log(9, 1);
      shows("none more", x, "xxxxxxxxxx9");
      shows("five zeros are none", log(of("000000", "0012"), "000003", "000005"), "000003000005");
      Greentrunk y = log(of("0012"), "120012", "112", "9");
      shows("12 alone is none", y, "12xxxx1129");
      Greentrunk z = log(of("100"), "1", "0", "0", "100");
      shows("zeros behind", z, "xxxxxx");
    });
    Edge.test(where, "returns how many secrets there are then; one in place of another is not one more", () -> {
      Greentrunk x = new Greentrunk();
      Due.eq("the last", x.secret(2, 12, 2), 1);
      Due.eq("in its place", x.secret(2, 0, 6), 1);
      Due.eq("the first", x.secret(0, 12, 2), 2);
      Due.eq("the same as another", x.secret(1, 12, 2), 3);
      Due.eq("in place of that", x.secret(1, 13, 2), 3);
    });
    Edge.test(where, "in place of the one there: shorter, longer, the same", () -> {
      Greentrunk x = log(of("123456"), "123456", "7");
      shows("six", x, "xxxxxx7");
      x.secret(0, 12, 2);
      shows("its first two", x, "xx34567");
      x.secret(0, 4567, 4);
      shows("four at the end", x, "123xxxx");
      x.secret(0, 4567, 4);
      shows("the same", x, "123xxxx");
      x.secret(0, 89, 2);
      shows("none", x, "1234567");
      x.secret(0, 67, 3);
      shows("067 is none, nor is 7 its beginning", x, "1234567");
    });
  }

  // ---- promise 43

  private static void addLog() {
    String where = "Promise 43, log";
    Edge.test(where, "many: 1 to 6", () -> {
      for (int many : Edge.from(1, 6)) {
        Edge.takes("many " + many, Greentrunk::new, g -> g.log(MOST[many], many), many);
        Edge.takes("many " + many + ", zeros", Greentrunk::new, g -> g.log(0, many), many);
        Greentrunk x = new Greentrunk();
        x.log(5, many);
        shows("zeros ahead", x, "000005".substring(6 - many));
      }
      for (int many : Edge.outside(1, 6)) {
        Edge.argument("many " + many, EdgeLogsTest::twoSecrets, g -> g.log(0, many));
        Edge.argument("many " + many + ", a digit", Greentrunk::new, g -> g.log(1, many));
      }
    });
    Edge.test(where, "IllegalArgumentException if digits is below 0 or has more digits", () -> {
      for (int many : Edge.from(1, 6)) {
        for (int digits : new int[] {-1, MOST[many] + 1, Edge.LEAST, Edge.GREATEST, -MOST[many], 10 * (MOST[many] + 1)}) {
          Edge.argument("digits " + digits + " of " + many, EdgeLogsTest::twoSecrets, g -> g.log(digits, many));
        }
      }
    });
    Edge.test(where, "IllegalStateException if the log would have more than 200 digits", () -> {
      for (int many : Edge.from(1, 6)) {
        for (int have : Edge.from(193, 200)) {
          if (have + many <= 200) Edge.takes(have + " and " + many, () -> digits(have), g -> g.log(0, many), have + many);
          else Edge.state(have + " and " + many, () -> digits(have), g -> g.log(0, many));
        }
      }
      Greentrunk full = digits(200);
      Due.eq("the first", full.logAt(0), 7);
      Due.eq("the last", full.logAt(199), 7);
    });
    Edge.test(where, "digits that are not shown count as well", () -> {
      Greentrunk x = new Greentrunk();
      x.secret(0, 777777, 6);
      for (int i = 0; i < 199; i++) x.log(7, 1);
      Due.eq("5 could be a beginning", x.shown(), 194);
      Due.state("201", x, g -> g.log(77, 2));
      Due.eq("200", x.log(7, 1), 195);
      Due.state("201", x, g -> g.log(7, 1));
      for (int i = 0; i < 195; i++) Due.eq("cut out", x.logAt(i), CUT);
    });
    Edge.test(where, "an argument comes ahead of the state", () -> {
      Edge.argument("many", () -> digits(200), g -> g.log(0, 7));
      Edge.argument("many", () -> digits(200), g -> g.log(0, 0));
      Edge.argument("digits", () -> digits(200), g -> g.log(-1, 1));
      Edge.argument("digits", () -> digits(200), g -> g.log(10, 1));
    });
    Edge.test(where, "returns how many digits of the log are shown then", () -> {
      Greentrunk x = log(of("1234"));
      Due.eq("1", x.log(1, 1), 0);
      Due.eq("12", x.log(2, 1), 0);
      Due.eq("123", x.log(3, 1), 0);
      Due.eq("1235", x.log(5, 1), 4);
      Due.eq("12351", x.log(1, 1), 4);
      Due.eq("12351234", x.log(234, 3), 8);
    });
  }

  // ---- promises 44 and 45

  private static void shownAndLogAt() {
    Edge.test("Promise 44, shown", "an empty log shows none, whatever the secrets are; without secrets all is shown", () -> {
      Due.eq("empty", new Greentrunk().shown(), 0);
      Due.eq("empty, with secrets", log(of("00", "11", "123456")).shown(), 0);
      for (int n : new int[] {1, 6, 7, 199, 200}) Due.eq("no secrets", digits(n).shown(), n);
    });
    String where = "Terms, logs";
    Edge.test(where, "shown up to the first one from which on to the end it could be the beginning of a secret", () -> {
      String secret = "123123";
      for (int n = 1; n <= 6; n++) {
        Greentrunk x = log(of(secret), "9", secret.substring(0, n));
        Due.eq("9 and its first " + n, x.shown(), n < 6 ? 1 : 4);
        Greentrunk y = log(of(secret), secret.substring(0, n));
        Due.eq("its first " + n, y.shown(), n < 6 ? 0 : 3);
        Greentrunk z = log(of(secret), secret.substring(0, n), "9");
        Due.eq("its first " + n + " and 9", z.shown(), n + 1);
      }
      shows("whole, and its second half could begin another", log(of(secret), secret), "xxx");
    });
    Edge.test(where, "a secret that is whole is no beginning of itself: its last digit is shown", () -> {
      shows("12", log(of("12"), "12"), "xx");
      shows("123456", log(of("123456"), "123456"), "xxxxxx");
      shows("11: its second digit could begin one more", log(of("11"), "11"), "x");
      shows("the beginning of a longer secret", log(of("12", "1234"), "12"), "");
      shows("and whole", log(of("12", "1234"), "1235"), "xx35");
    });
    Edge.test(where, "the longest beginning of any secret, be it the last one's", () -> {
      shows("of 3", log(of("45", "345", "12345"), "91234"), "9");
      shows("of the first", log(of("12345", "345", "45"), "91234"), "9");
      shows("one digit", log(of("45", "46", "47"), "91234"), "9123");
      shows("none", log(of("45", "46", "47"), "91235"), "91235");
    });
    Edge.test(where, "in the whole log, also one that is told later or overlaps", () -> {
      Greentrunk x = log(of(), "121212", "1");
      shows("none", x, "1212121");
      x.secret(0, 1212, 4);
      shows("told later, overlaps itself; 121 could begin one more", x, "xxxx");
      x.log(9, 1);
      shows("the last 1 is none of one", x, "xxxxxx19");
      Greentrunk y = log(of("123", "345", "567"), "123456", "7", "0");
      shows("three in a chain", y, "xxxxxxx0");
      Greentrunk z = log(of("2345", "34"), "123456");
      shows("one inside of another", z, "1xxxx6");
    });
    Edge.test(where, "at the first and at the last of 200 digits", () -> {
      Greentrunk x = digits(198);
      x.log(12, 2);
      x.secret(0, 12, 2);
      Due.eq("all are shown", x.shown(), 200);
      Due.eq("the last", x.logAt(199), CUT);
      Due.eq("the one ahead", x.logAt(198), CUT);
      Due.eq("and that is none", x.logAt(197), 7);
      x.secret(0, 777777, 6);
      Due.eq("the first", x.logAt(0), CUT);
      Due.eq("the last 7", x.logAt(197), CUT);
      Due.eq("1", x.logAt(198), 1);
      x.secret(1, 123456, 6);
      Due.eq("12 could begin that", x.shown(), 198);
      Due.index("hidden", x, g -> g.logAt(198));
    });
    Edge.test("Promise 45, logAt", "place: 0 for the first one; IndexOutOfBoundsException if there is no such place", () -> {
      Edge.index("an empty log", Greentrunk::new, g -> g.logAt(0));
      for (int n : new int[] {1, 2, 7, 200}) {
        Greentrunk x = digits(n);
        for (int i = 0; i < n; i++) Due.eq("place " + i, x.logAt(i), 7);
        for (int i : Edge.outside(0, n - 1)) Edge.index("place " + i + " of " + n, () -> digits(n), g -> g.logAt(i));
      }
      for (int i : Edge.outside(0, 0)) Edge.index("hidden, or none: " + i, () -> log(of("12"), "31"), g -> g.logAt(i));
      Edge.index("all hidden", () -> log(of("12"), "1"), g -> g.logAt(0));
    });
    Edge.test("Promise 45, logAt", "each digit 0 to 9; CUT, 10, if it is cut out", () -> {
      Greentrunk x = log(of(), "012345", "6789");
      for (int i = 0; i < 10; i++) Due.eq("digit", x.logAt(i), i);
      x.secret(0, 45, 2);
      for (int i = 0; i < 10; i++) Due.eq("digit", x.logAt(i), i == 4 || i == 5 ? 10 : i);
      Due.eq("CUT", CUT, 10);
    });
  }

  public static void main(String[] args) {
    secret();
    addLog();
    shownAndLogAt();
    Edge.end("EdgeLogsTest");
  }
}
