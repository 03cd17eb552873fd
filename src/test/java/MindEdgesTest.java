/** The edges of promises 10 to 14 and 16: thinks, with, solve, fewest, pure, again. */
public final class MindEdgesTest {
  private static final Check CHECK = new Check("MindEdgesTest");
  private static final Twins TWINS = new Twins(CHECK);
  private static final int NONE = 999999999;

  public static void main(String[] args) {
    thinksWithoutRun();
    thinksAsEnded();
    withTheLeastAndTheGreatest();
    withEachVariable();
    solveFromMinusTwentyToTwenty();
    solveTheLeast();
    solveATold();
    solveNone();
    fewestFromMinusTwentyToTwenty();
    fewestOfSeveralTheLeast();
    fewestWithoutFault();
    fewestNone();
    pureEndsAlike();
    pureGlobalsAsTheyWere();
    againOneAndTwenty();
    againOneBehindTheOther();
    nothingStays();
    CHECK.finish();
  }

  /** "In mind, a RUN now": it needs no RUN ahead of it, and is none. */
  private static void thinksWithoutRun() {
    ClosuresThatBounce x = new ClosuresThatBounce();
    int[] due = {0, 0, 1, 0, 0, 0};
    for (int what = 0; what <= 5; what++) {
      CHECK.due("thinks(" + what + ")", x.thinks(what), due[what]);
    }
    CHECK.due("thinks(-1)", x.thinks(-1), 1000000002);
    CHECK.due("thinks(6)", x.thinks(6), 1000000002);
    CHECK.due("ended(0)", x.ended(0), 1000000003);
    CHECK.due("count(2)", x.count(2), 0);
    CHECK.due("count(5)", x.count(5), 0);
  }

  /** "as above": whatever the RUN then ends with has been told by thinks(). */
  private static void thinksAsEnded() {
    String[] programs = {"Sa+a1", "FeWX1", "C1P2", "WWX7", "Lf0,SfFa+1@faW@f0", "Lf0,SfFa@fa@f0", "LfFaa@Fb@fb3"};
    for (String letters : programs) {
      ClosuresThatBounce x = Check.of(letters);
      x.run();
      int[] told = new int[6];
      for (int what = 0; what <= 5; what++) {
        told[what] = x.thinks(what);
      }
      x.run();
      for (int what = 0; what <= 5; what++) {
        CHECK.due(letters + " ended(" + what + ")", x.ended(what), told[what]);
      }
    }
  }

  /** "WITH a GLOBAL another NUMBER": "NUMBERS (-9999 .. 9999)". */
  private static void withTheLeastAndTheGreatest() {
    ClosuresThatBounce x = Check.of("a");
    x.sets(0, 5);
    CHECK.due("with(0, -9999, 1)", x.with(0, -9999, 1), -9999);
    CHECK.due("with(0, 9999, 1)", x.with(0, 9999, 1), 9999);
    CHECK.due("with(0, -10000, 1)", x.with(0, -10000, 1), 1000000004);
    CHECK.due("with(0, 10000, 1)", x.with(0, 10000, 1), 1000000006);
    CHECK.due("with(0, 0, -1)", x.with(0, 0, -1), 1000000002);
    CHECK.due("with(0, 0, 6)", x.with(0, 0, 6), 1000000002);
    CHECK.due("with its own", x.with(0, 5, 1), 5);
    CHECK.due("global(0)", x.global(0), 5);
  }

  private static void withEachVariable() {
    ClosuresThatBounce x = Check.of("+a-*bc+d*ef");
    int[] now = {1, 2, 3, 4, 5, 6};
    for (int v = 0; v <= 5; v++) {
      x.sets(v, now[v]);
    }
    int[] due = {1 + 6 - 34, 10 + 6 - 34, 1 + 30 - 34, 1 + 20 - 34, 1 + 6 - 40, 1 + 6 - 64, 1 + 6 - 54};
    CHECK.due("as now", x.thinks(1), due[0]);
    for (int v = 0; v <= 5; v++) {
      CHECK.due("with(" + v + ", 10, 1)", x.with(v, 10, 1), due[v + 1]);
      CHECK.due("global(" + v + ")", x.global(v), now[v]);
    }
    CHECK.due("with(6, 10, 1)", x.with(6, 10, 1), 1000000001);
    CHECK.due("with(-1, 10, 1)", x.with(-1, 10, 1), 1000000001);
  }

  /** "SOLVE: the least NUMBER (-20 .. 20)". */
  private static void solveFromMinusTwentyToTwenty() {
    ClosuresThatBounce x = Check.of("a");
    CHECK.due("solve(0, -21)", x.solve(0, -21), NONE);
    for (int n = -20; n <= 20; n++) {
      CHECK.due("solve(0, " + n + ")", x.solve(0, n), n);
    }
    CHECK.due("solve(0, 21)", x.solve(0, 21), NONE);
    Check.tell(x, "f");
    CHECK.due("solve(5, 20)", x.solve(5, 20), 20);
    CHECK.due("solve(6, 20)", x.solve(6, 20), 1000000001);
    CHECK.due("solve(-1, 20)", x.solve(-1, 20), 1000000001);
  }

  /** "the least". */
  private static void solveTheLeast() {
    ClosuresThatBounce x = Check.of("*aa");
    CHECK.due("of -3 and 3", x.solve(0, 9), -3);
    CHECK.due("of -20 and 20", x.solve(0, 400), -20);
    CHECK.due("of all", x.solve(1, 0), -20);
    Check.tell(x, "?*-a7-a856");
    CHECK.due("of 7 and 8", x.solve(0, 6), 7);
    CHECK.due("of all others", x.solve(0, 5), -20);
  }

  /** "ends with a told NUMBER": "-4; -6" beyond NUMBERS. */
  private static void solveATold() {
    ClosuresThatBounce x = Check.of("b");
    x.sets(1, 9999);
    CHECK.due("solve(0, 9999)", x.solve(0, 9999), -20);
    CHECK.due("solve(0, -9999)", x.solve(0, -9999), NONE);
    CHECK.due("solve(0, 10000)", x.solve(0, 10000), 1000000006);
    x.sets(1, -9999);
    CHECK.due("solve(0, -9999)", x.solve(0, -9999), -20);
    CHECK.due("solve(0, -10000)", x.solve(0, -10000), 1000000004);
    CHECK.due("its GLOBAL now is not asked", x.solve(1, -9999), NONE);
  }

  /** "or 999999999: none": a SHAPE, a VARIABLE, a CODE is not the NUMBER. */
  private static void solveNone() {
    CHECK.due("a SHAPE", Check.of("C12").solve(0, 3), NONE);
    CHECK.due("a VARIABLE", Check.of("Fd1").solve(0, 3), NONE);
    CHECK.due("a CODE", Check.of("p1").solve(0, 3), NONE);
    CHECK.due("a CODE", Check.of("Xa").solve(0, 13), NONE);
    CHECK.due("the NUMBER", Check.of("3").solve(0, 3), -20);
  }

  /** "FEWEST: the NUMBER (-20 .. 20)": these are tried, and none beside them. */
  private static void fewestFromMinusTwentyToTwenty() {
    fewest("?+a*45+123", 0, -20, 7);
    fewest("?+a*37+123", 0, -20, 9);
    fewest("?-a*45+123", 0, 20, 7);
    fewest("?-a*37+123", 0, -20, 9);
    fewest("?-f*45+123", 5, 20, 7);
    ClosuresThatBounce x = Check.of("?-f*45+123");
    CHECK.due("fewest(6, 0)", x.fewest(6, 0), 1000000001);
    CHECK.due("fewest(-1, 0)", x.fewest(-1, 0), 1000000001);
    CHECK.due("fewest(0, -1)", x.fewest(0, -1), 1000000002);
    CHECK.due("fewest(0, 2)", x.fewest(0, 2), 1000000002);
  }

  private static void fewest(String letters, int variable, int number, int steps) {
    ClosuresThatBounce x = Check.of(letters);
    CHECK.due(letters + " fewest(" + variable + ", 0)", x.fewest(variable, 0), number);
    CHECK.due(letters + " fewest(" + variable + ", 1)", x.fewest(variable, 1), steps);
  }

  /** "of several the least". */
  private static void fewestOfSeveralTheLeast() {
    fewest("1", 0, -20, 1);
    fewest("?*-a7-a8+123", 0, 7, 9);
    fewest("?*+a7-a8+123", 0, -7, 9);
  }

  /** "ends without FAULT": a FUNCTION and a RECORD are none. */
  private static void fewestWithoutFault() {
    fewest("?-a3X0+1+2+34", 0, 3, 11);
    fewest("?-a3+12Fa0", 0, 3, 5);
    fewest("?-a3+12P0", 0, 3, 6);
    fewest("?-a3+12X0", 0, -20, 7);
  }

  /** "999999999 none". */
  private static void fewestNone() {
    fewest("X0", 0, NONE, NONE);
    fewest("Lf0,SfFa@fa@f0", 0, NONE, NONE);
    fewest("?-a*37X0+12", 0, NONE, NONE);
  }

  /** "PURE: whether two RUNS one behind the other end alike (how, the NUMBER or what is told in its place)". */
  private static void pureEndsAlike() {
    // Sa-1a: 1, 0, 1, ..: behind two RUNS GLOBALS are as they were, but the RUNS end otherwise.
    CHECK.due("the NUMBER", Check.of("Sa-1a").pure(), 0);
    CHECK.due("how: NUMBER, RECORD", Check.of("?Sa-1a0P0").pure(), 0);
    CHECK.due("how: NUMBER, FUNCTION", Check.of("?Sa-1a0Fa0").pure(), 0);
    CHECK.due("the SHAPE", Check.of("?Sa-1aB00C00").pure(), 0);
    CHECK.due("the VARIABLE", Check.of("?Sa-1aFa0Fb0").pure(), 0);
    CHECK.due("the CODE", Check.of("?Sa-1aX0X1").pure(), 0);
    CHECK.due("a CODE and a NUMBER", Check.of("?Sa-1aX0+91").pure(), 0);
    CHECK.due("all alike", Check.of("?Sa-1a55").pure(), 1);
    CHECK.due("CAUSES are not asked", Check.of("?Sa-1aWX0WWX0").pure(), 1);
    CHECK.due("STEPS are not asked", Check.of("?Sa-1a2+11").pure(), 1);
    CHECK.due("a FAULT", Check.of("X0").pure(), 1);
  }

  /** "and leave GLOBALS as they were". */
  private static void pureGlobalsAsTheyWere() {
    for (char v = 'a'; v <= 'f'; v++) {
      ClosuresThatBounce x = Check.of(",S" + v + "75");
      CHECK.due("S" + v + " 0 to 7", x.pure(), 0);
      x.sets(v - 'a', 7);
      CHECK.due("S" + v + " 7 to 7", x.pure(), 1);
      CHECK.due("a FAULT behind S" + v, Check.of(",S" + v + "7X1").pure(), 0);
    }
    CHECK.due("CELLS are none", Check.of("La1,Sa75").pure(), 1);
    CHECK.due("CACHES are none", Check.of("pP1").pure(), 1);
  }

  /** "AGAIN: n RUNS (1 .. 20)". */
  private static void againOneAndTwenty() {
    ClosuresThatBounce x = Check.of("X-Sa+a1a");
    CHECK.due("again(0, 0)", x.again(0, 0), 1000000004);
    CHECK.due("again(1, 0)", x.again(1, 0), 1);
    CHECK.due("again(1, 1)", x.again(1, 1), 1);
    CHECK.due("again(20, 0)", x.again(20, 0), 20);
    CHECK.due("again(20, 1)", x.again(20, 1), 20);
    CHECK.due("again(21, 0)", x.again(21, 0), 1000000006);
    CHECK.due("again(1, -1)", x.again(1, -1), 1000000002);
    CHECK.due("again(1, 2)", x.again(1, 2), 1000000002);
    CHECK.due("global(0)", x.global(0), 0);
  }

  /** "one behind the other: how many end with a FAULT; what GLOBAL a is then." */
  private static void againOneBehindTheOther() {
    ClosuresThatBounce x = Check.of("Sa+a1");
    x.sets(0, 9985);
    CHECK.due("as far as 9999", x.again(14, 1), 9999);
    CHECK.due("without FAULT", x.again(14, 0), 0);
    CHECK.due("the first FAULT", x.again(15, 0), 1);
    CHECK.due("six FAULTS", x.again(20, 0), 6);
    CHECK.due("it stays 9999", x.again(20, 1), 9999);
    Check.tell(x, "Sb1");
    CHECK.due("GLOBAL a, not b", x.again(3, 1), 9985);
    CHECK.due("a RECORD is no FAULT", Check.of("P1").again(20, 0), 0);
    CHECK.due("a FUNCTION is no FAULT", Check.of("Fa1").again(20, 0), 0);
  }

  /** "In mind .. (GLOBALS, CACHES, THE LATEST RUN stay)". */
  private static void nothingStays() {
    for (int i = 0; i <= 5; i++) {
      int what = i;
      int[] due = {3, 7, 20, 0, 0, 2};
      TWINS.look("thinks(" + what + ")", States::used, x -> x.thinks(what), due[what]);
      TWINS.look("with(5, 9, " + what + ")", States::used, x -> x.with(5, 9, what), due[what]);
    }
    TWINS.look("solve(1, 4)", States::used, x -> x.solve(1, 4), NONE);
    TWINS.look("fewest(1, 1)", States::used, x -> x.fewest(1, 1), NONE);
    TWINS.look("pure()", States::used, x -> x.pure(), 0);
    TWINS.look("changes()", States::used, x -> x.changes(), 0);
    TWINS.look("again(20, 1)", States::used, x -> x.again(20, 1), 22);
    TWINS.look("likely(2, 1)", States::used, x -> x.likely(2, 1), 1);
    TWINS.look("mean(0, 0)", States::used, x -> x.mean(0, 0), 20);
    TWINS.look("whatIs(0)", States::used, x -> x.whatIs(0), 65535);
    TWINS.look("lots(20, 1, 1)", States::used, x -> x.lots(20, 1, 1), 20);
    TWINS.look("global(0)", States::used, x -> x.global(0), 2);
    TWINS.look("ended(5)", States::used, x -> x.ended(5), 2);
  }
}
