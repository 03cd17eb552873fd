/** Promises 10 to 14, 16, 23: thinks, with, solve, fewest, pure, again, lots; nothing of it stays. */
public final class InMindTest {
  private static final Check CHECK = new Check("InMindTest");
  private static final int NONE = 999999999;

  public static void main(String[] args) {
    thinks();
    with();
    solve();
    fewest();
    pure();
    again();
    lots();
    nothingStays();
    refusals();
    CHECK.finish();
  }

  private static void thinks() {
    ClosuresThatBounce x = Check.of("LfFcc,Sa+a1@Fd@fWXd3");
    int[] due = {3, 7, 15, 1, 0, 1};
    for (int what = 0; what < 6; what++) {
      CHECK.due("thinks(" + what + ")", x.thinks(what), due[what]);
    }
    CHECK.due("count(2)", x.count(2), 0);
    CHECK.due("global(0)", x.global(0), 0);
    Check.tell(x, "Sa+a1");
    CHECK.due("thinks(1)", x.thinks(1), 1);
    CHECK.due("thinks(1)", x.thinks(1), 1);
    x.run();
    CHECK.due("thinks(1)", x.thinks(1), 2);
    CHECK.due("ended(1)", x.ended(1), 1);
  }

  private static void with() {
    ClosuresThatBounce x = Check.of("+*a2b");
    x.sets(0, 5);
    x.sets(1, 1);
    CHECK.due("with(0, 7, 1)", x.with(0, 7, 1), 15);
    CHECK.due("with(1, -9, 1)", x.with(1, -9, 1), 1);
    CHECK.due("with(0, 9999, 0)", x.with(0, 9999, 0), 3);
    CHECK.due("with(0, -9999, 1)", x.with(0, -9999, 1), 4);
    CHECK.due("with(5, 3, 2)", x.with(5, 3, 2), 5);
    CHECK.due("with(5, 3, 1)", x.with(5, 3, 1), 11);
    CHECK.due("global(0)", x.global(0), 5);
  }

  private static void solve() {
    ClosuresThatBounce x = Check.of("*aa");
    CHECK.due("solve(0, 9)", x.solve(0, 9), -3);
    CHECK.due("solve(0, 400)", x.solve(0, 400), -20);
    CHECK.due("solve(0, 441)", x.solve(0, 441), NONE);
    CHECK.due("solve(0, 5)", x.solve(0, 5), NONE);
    CHECK.due("solve(1, 0)", x.solve(1, 0), -20);
    Check.tell(x, "-0a");
    CHECK.due("solve(0, -20)", x.solve(0, -20), 20);
    CHECK.due("solve(0, -21)", x.solve(0, -21), NONE);
    CHECK.due("solve(0, -9999)", x.solve(0, -9999), NONE);
    CHECK.due("solve(0, 9999)", x.solve(0, 9999), NONE);
    Check.tell(x, "?aP12");
    CHECK.due("a SHAPE is no NUMBER", x.solve(0, 0), NONE);
    CHECK.due("solve(0, 2)", x.solve(0, 2), 0);
    Check.tell(x, "X1");
    CHECK.due("a CODE is no NUMBER", x.solve(0, 11), NONE);
  }

  private static void fewest() {
    ClosuresThatBounce x = Check.of("?a?-a31+234");
    CHECK.due("fewest(0, 0)", x.fewest(0, 0), 0);
    CHECK.due("fewest(0, 1)", x.fewest(0, 1), 3);
    CHECK.due("fewest(1, 0)", x.fewest(1, 0), -20);
    Check.tell(x, "?aX0P1");
    CHECK.due("only without FAULT", x.fewest(0, 0), 0);
    CHECK.due("only without FAULT", x.fewest(0, 1), 4);
    Check.tell(x, "?+aa2+12");
    CHECK.due("of several the least", x.fewest(0, 0), -20);
    CHECK.due("fewest(0, 1)", x.fewest(0, 1), 5);
    Check.tell(x, "?-a*45+123");
    CHECK.due("as far as 20", x.fewest(0, 0), 20);
    CHECK.due("as far as 20", x.fewest(0, 1), 7);
    Check.tell(x, "?+a*45+123");
    CHECK.due("from -20", x.fewest(0, 0), -20);
    Check.tell(x, "X+a1");
    CHECK.due("none", x.fewest(0, 0), NONE);
    CHECK.due("none", x.fewest(0, 1), NONE);
  }

  private static void pure() {
    CHECK.due("1", Check.of("1").pure(), 1);
    CHECK.due("Sa+a1", Check.of("Sa+a1").pure(), 0);
    CHECK.due("Sa0", Check.of("Sa0").pure(), 1);
    CHECK.due("Sa1", Check.of("Sa1").pure(), 0);
    CHECK.due("X1", Check.of("X1").pure(), 1);
    CHECK.due(",Sf1X1", Check.of(",Sf1X1").pure(), 0);
    CHECK.due("LaaSa+a1", Check.of("LaaSa+a1").pure(), 1);
    CHECK.due("ends otherwise, GLOBALS as they were", Check.of("LaaSa-1a").pure(), 1);
    CHECK.due("ends otherwise: 1, 0", Check.of("Sa-1a").pure(), 0);
    CHECK.due("ends otherwise: FUNCTION, RECORD", Check.of("?Sa-1aFb1P1").pure(), 0);
    CHECK.due("another SHAPE", Check.of("?Sa-1aQ1P1").pure(), 0);
    ClosuresThatBounce x = Check.of(",Sa-0a5");
    x.sets(0, 3);
    CHECK.due("two RUNS leave GLOBALS as they were", x.pure(), 1);
    CHECK.due("caches may change", Check.of("pP1").pure(), 1);
  }

  private static void again() {
    ClosuresThatBounce x = Check.of("X-Sa+a19");
    CHECK.due("again(1, 0)", x.again(1, 0), 1);
    CHECK.due("again(20, 1)", x.again(20, 1), 20);
    CHECK.due("again(20, 0)", x.again(20, 0), 20);
    Check.tell(x, "?-Sa+a13aX0");
    CHECK.due("again(2, 0)", x.again(2, 0), 0);
    CHECK.due("again(3, 0)", x.again(3, 0), 1);
    CHECK.due("again(20, 0)", x.again(20, 0), 1);
    CHECK.due("again(20, 1)", x.again(20, 1), 20);
    CHECK.due("global(0)", x.global(0), 0);
    x.sets(0, -5);
    CHECK.due("again(7, 0)", x.again(7, 0), 0);
    CHECK.due("again(7, 1)", x.again(7, 1), 2);
    CHECK.due("again(8, 0)", x.again(8, 0), 1);
  }

  /** The DRAWS are reckoned here once more, with longs. */
  private static void lots() {
    ClosuresThatBounce x = Check.of("a");
    long z = 0;
    int[] draws = new int[120];
    for (int i = 0; i < draws.length; i++) {
      z = (z * 1664525L + 1013904223L) & 0xffffffffL;
      draws[i] = (int) ((z & 0x7fffffffL) / 256 % 10);
    }
    CHECK.due("the first DRAW", draws[0], 1013904223 / 256 % 10);
    int[] together = new int[6];
    for (int run = 0; run < 20; run++) {
      for (int v = 0; v < 6; v++) {
        together[v] += draws[6 * run + v];
      }
    }
    CHECK.due("lots(1, 0, 0)", x.lots(1, 0, 0), draws[0]);
    CHECK.due("lots(2, 0, 0)", x.lots(2, 0, 0), draws[0] + draws[6]);
    for (int v = 0; v < 6; v++) {
      Check.tell(x, "" + (char) ('a' + v));
      CHECK.due("lots(20, 0, 0) of " + v, x.lots(20, 0, 0), together[v]);
      CHECK.due("lots(20, 0, 1) of " + v, x.lots(20, 0, 1), 0);
    }
    Check.tell(x, "?bXaP1");
    int faults = 0;
    for (int run = 0; run < 20; run++) {
      faults += draws[6 * run + 1] != 0 ? 1 : 0;
    }
    CHECK.due("FAULTS", x.lots(20, 0, 1), faults);
    CHECK.due("a RECORD is no NUMBER", x.lots(20, 0, 0), 0);
    Check.tell(x, "Sa+a1");
    CHECK.due("each from now", x.lots(20, 0, 0), together[0] + 20);
    CHECK.due("a seed below 0", x.lots(1, -1, 0), 1 + ((1664525 * -1 + 1013904223) / 256 % 10));
  }

  private static void nothingStays() {
    ClosuresThatBounce x = Check.of(",Sa+a1pB1a");
    x.run();
    x.row(0);
    for (int what = 0; what < 6; what++) {
      x.thinks(what);
      x.with(0, 8, what);
    }
    x.solve(0, 1);
    x.fewest(1, 0);
    x.pure();
    x.changes();
    x.again(5, 0);
    x.likely(3, 0);
    x.mean(0, 0);
    x.whatIs(0);
    x.lots(5, 5, 0);
    CHECK.due("global(0)", x.global(0), 1);
    CHECK.due("cache(0, 2)", x.cache(0, 2), 0);
    CHECK.due("cache(0, 3)", x.cache(0, 3), 1);
    CHECK.due("count(5)", x.count(5), 1);
    CHECK.due("count(6)", x.count(6), 1);
    CHECK.due("ended(1)", x.ended(1), 1);
    CHECK.due("ended(2)", x.ended(2), 9);
    CHECK.due("judge()", x.judge(), 0);
    CHECK.due("global(0)", x.global(0), 1);
  }

  private static void refusals() {
    ClosuresThatBounce x = new ClosuresThatBounce();
    CHECK.due("thinks(6)", x.thinks(6), 1000000002);
    CHECK.due("thinks(-1)", x.thinks(-1), 1000000002);
    CHECK.due("with(6, 10000, 6)", x.with(6, 10000, 6), 1000000001);
    CHECK.due("with(-1, -10000, 6)", x.with(-1, -10000, 6), 1000000001);
    CHECK.due("with(0, -10000, 6)", x.with(0, -10000, 6), 1000000004);
    CHECK.due("with(0, 10000, 6)", x.with(0, 10000, 6), 1000000006);
    CHECK.due("with(0, 0, 6)", x.with(0, 0, 6), 1000000002);
    CHECK.due("with(0, 0, -1)", x.with(0, 0, -1), 1000000002);
    CHECK.due("solve(6, 10000)", x.solve(6, 10000), 1000000001);
    CHECK.due("solve(0, -10000)", x.solve(0, -10000), 1000000004);
    CHECK.due("solve(0, 10000)", x.solve(0, 10000), 1000000006);
    CHECK.due("fewest(6, 2)", x.fewest(6, 2), 1000000001);
    CHECK.due("fewest(-1, 0)", x.fewest(-1, 0), 1000000001);
    CHECK.due("fewest(0, 2)", x.fewest(0, 2), 1000000002);
    CHECK.due("fewest(0, -1)", x.fewest(0, -1), 1000000002);
    CHECK.due("again(0, 2)", x.again(0, 2), 1000000004);
    CHECK.due("again(21, 2)", x.again(21, 2), 1000000006);
    CHECK.due("again(20, 2)", x.again(20, 2), 1000000002);
    CHECK.due("again(1, -1)", x.again(1, -1), 1000000002);
    CHECK.due("lots(0, 0, 2)", x.lots(0, 0, 2), 1000000004);
    CHECK.due("lots(21, 0, 2)", x.lots(21, 0, 2), 1000000006);
    CHECK.due("lots(20, 0, 2)", x.lots(20, 0, 2), 1000000002);
    CHECK.due("lots(1, 0, -1)", x.lots(1, 0, -1), 1000000002);
    int[] due = {5, 10, 0, 4, 0, 4};
    for (int i = 0; i < due.length; i++) {
      CHECK.due("count(" + (11 + i) + ")", x.count(11 + i), due[i]);
    }
  }
}
