/** The edges of promises 17 and 18: LIKELY, MEAN, fractions in least terms. */
public final class FractionEdgesTest {
  private static final Check CHECK = new Check("FractionEdgesTest");

  public static void main(String[] args) {
    oddsFromTwoToTwenty();
    nothing();
    all();
    leastTerms();
    eachByItself();
    othersAreAsNow();
    meanOfNoughtToNine();
    meanInLeastTerms();
    meanOfEachVariable();
    theGreatestMean();
    CHECK.finish();
  }

  private static void likely(String letters, int t, long above, long below) {
    ClosuresThatBounce x = Check.of(letters);
    CHECK.due(letters + " likely(" + t + ", 0)", x.likely(t, 0), above);
    CHECK.due(letters + " likely(" + t + ", 1)", x.likely(t, 1), below);
  }

  private static void mean(String letters, int variable, long above, long below) {
    ClosuresThatBounce x = Check.of(letters);
    CHECK.due(letters + " mean(" + variable + ", 0)", x.mean(variable, 0), above);
    CHECK.due(letters + " mean(" + variable + ", 1)", x.mean(variable, 1), below);
  }

  /** "with odds 1 in t (2 .. 20)", "part 0 above, 1 below the line. Refused as told: -4; -6 20; -2." */
  private static void oddsFromTwoToTwenty() {
    for (int t = 2; t <= 20; t++) {
      likely("?a0X0", t, 1, t);
      likely("?aX00", t, t - 1, t);
      likely("?*a*bc0X0", t, 1, (long) t * t * t);
      likely("?*a*bcX00", t, (long) t * t * t - 1, (long) t * t * t);
    }
    ClosuresThatBounce x = new ClosuresThatBounce();
    CHECK.due("likely(1, 0)", x.likely(1, 0), 4000000000000000004L);
    CHECK.due("likely(21, 0)", x.likely(21, 0), 4000000000000000006L);
    CHECK.due("likely(2, -1)", x.likely(2, -1), 4000000000000000002L);
    CHECK.due("likely(2, 2)", x.likely(2, 2), 4000000000000000002L);
  }

  /** "(0 by 1, if nothing)". */
  private static void nothing() {
    for (int t = 2; t <= 20; t += 9) {
      likely("X0", t, 0, 1);
      likely("?d0X0", t, 0, 1);
      likely("Lf0,SfFa@fa@f0", t, 0, 1);
    }
  }

  private static void all() {
    for (int t = 2; t <= 20; t += 9) {
      likely("0", t, 1, 1);
      likely("P0", t, 1, 1);
      likely("Fa0", t, 1, 1);
    }
  }

  /** "Fractions in least terms". */
  private static void leastTerms() {
    likely("?-+a+bc2X00", 2, 3, 8);
    likely("?-+a+bc1X00", 2, 3, 8);
    likely("?+a+bc0X0", 2, 7, 8);
    likely("?-+a+bc2X00", 4, 9, 64);
    likely("?-+a+bc2X00", 3, 2, 9);
    likely("?-+a+bc1X00", 3, 4, 9);
    likely("?-+a+bc10X0", 3, 5, 9);
    likely("?*ab0X0", 20, 1, 400);
    likely("?+abX00", 20, 361, 400);
    likely("?-+a+bc1X00", 20, 1083, 8000);
  }

  /** "GLOBALS a, b, c each 1 .. else 0, by itself": not what they are now. */
  private static void eachByItself() {
    String[] programs = {"?a0X0", "?b0X0", "?c0X0"};
    for (String letters : programs) {
      ClosuresThatBounce x = Check.of(letters);
      for (int v = 0; v <= 2; v++) {
        x.sets(v, 7);
      }
      CHECK.due(letters + " above", x.likely(7, 0), 1);
      CHECK.due(letters + " below", x.likely(7, 1), 7);
    }
    likely("?*a-1b0X0", 3, 2, 9);
    likely("?*b-1c0X0", 3, 2, 9);
    likely("?-a10X0", 3, 2, 3);
    likely("?-a1X00", 3, 1, 3);
  }

  private static void othersAreAsNow() {
    for (int v = 3; v <= 5; v++) {
      ClosuresThatBounce x = Check.of("?" + (char) ('a' + v) + "0X0");
      CHECK.due("0 now", x.likely(3, 0), 0);
      x.sets(v, -9999);
      CHECK.due("another NUMBER now", x.likely(3, 0), 1);
      CHECK.due("global", x.global(v), -9999);
    }
  }

  /** "MEAN: STEPS of RUNS WITH a GLOBAL 0 .. 9, together, by 10": 9 is one of them, 10 and -1 are not. */
  private static void meanOfNoughtToNine() {
    mean("?a1+12", 0, 16, 5);
    mean("?-a91+12", 0, 26, 5);
    mean("?-a+911+12", 0, 7, 1);
    mean("?+a11+12", 0, 5, 1);
  }

  /** "Fractions in least terms": by 10, 5, 2, 1. */
  private static void meanInLeastTerms() {
    mean("?a1P1", 0, 31, 10);
    mean("?a1+12", 0, 16, 5);
    mean("?aP++1111", 0, 15, 2);
    mean("1", 0, 1, 1);
    mean("+12", 0, 3, 1);
  }

  /** "MEAN. Refused as told: -1; -2." */
  private static void meanOfEachVariable() {
    for (int v = 0; v <= 5; v++) {
      mean("?" + (char) ('a' + v) + "1P1", v, 31, 10);
      mean("?" + (char) ('a' + v) + "1P1", (v + 1) % 6, 4, 1);
    }
    ClosuresThatBounce x = new ClosuresThatBounce();
    CHECK.due("mean(-1, 0)", x.mean(-1, 0), 4000000000000000001L);
    CHECK.due("mean(6, 0)", x.mean(6, 0), 4000000000000000001L);
    CHECK.due("mean(0, -1)", x.mean(0, -1), 4000000000000000002L);
    CHECK.due("mean(0, 2)", x.mean(0, 2), 4000000000000000002L);
  }

  private static void theGreatestMean() {
    mean("Lf0,SfFa@fa@f0", 0, 400, 1);
    mean("X0", 0, 2, 1);
  }
}
