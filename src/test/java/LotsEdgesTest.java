import java.math.BigInteger;

/** The edges of promise 23: LOTS and its DRAWS. */
public final class LotsEdgesTest {
  private static final Check CHECK = new Check("LotsEdgesTest");
  private static final int[] SEEDS = {0, 1, -1, 255, 256, 7, 1000000007, Integer.MIN_VALUE, Integer.MIN_VALUE + 1,
      Integer.MAX_VALUE, Integer.MAX_VALUE - 1};

  public static void main(String[] args) {
    oneAndTwenty();
    drawsOfEachVariable();
    drawsReckonedByHand();
    anIntWrapsAround();
    withoutTheSignsBit();
    eachFromNow();
    numbersTogether();
    faults();
    CHECK.finish();
  }

  /** The DRAWS below 10 one behind the other, reckoned with numbers that have no bound. */
  private static int[] draws(int seed, int many) {
    BigInteger z = BigInteger.valueOf(seed);
    BigInteger all = BigInteger.ONE.shiftLeft(32);
    BigInteger half = BigInteger.ONE.shiftLeft(31);
    int[] drawn = new int[many];
    for (int i = 0; i < many; i++) {
      z = z.multiply(BigInteger.valueOf(1664525)).add(BigInteger.valueOf(1013904223)).mod(all);
      drawn[i] = z.mod(half).divide(BigInteger.valueOf(256)).mod(BigInteger.TEN).intValue();
    }
    return drawn;
  }

  /** "n RUNS (1 .. 20)", "Refused as told: -4; -6 20; -2." */
  private static void oneAndTwenty() {
    ClosuresThatBounce x = Check.of("1");
    CHECK.due("lots(0, 0, 0)", x.lots(0, 0, 0), 1000000004);
    CHECK.due("lots(21, 0, 0)", x.lots(21, 0, 0), 1000000006);
    CHECK.due("lots(1, 0, -1)", x.lots(1, 0, -1), 1000000002);
    CHECK.due("lots(1, 0, 2)", x.lots(1, 0, 2), 1000000002);
    for (int n = 1; n <= 20; n++) {
      CHECK.due("lots(" + n + ", 0, 0)", x.lots(n, 0, 0), n);
      CHECK.due("lots(" + n + ", 0, 1)", x.lots(n, 0, 1), 0);
    }
  }

  /** "GLOBALS a .. f by a DRAW below 10 each": in that order, run by run, with every seed. */
  private static void drawsOfEachVariable() {
    for (int z : SEEDS) {
      int[] drawn = draws(z, 120);
      for (int v = 0; v <= 5; v++) {
        ClosuresThatBounce x = Check.of("" + (char) ('a' + v));
        int together = 0;
        for (int n = 1; n <= 20; n++) {
          together += drawn[6 * (n - 1) + v];
          CHECK.due("lots(" + n + ", " + z + ", 0) of " + v, x.lots(n, z, 0), together);
        }
      }
    }
  }

  /** z 0: 1013904223 by 256 is 3960563 and a rest; 3960563 modulo 10 is 3. */
  private static void drawsReckonedByHand() {
    CHECK.due("lots(1, 0, 0)", Check.of("a").lots(1, 0, 0), 3);
  }

  /**
   * "z becomes z times 1664525 and 1013904223 (an int)": -1 becomes 1013904223 less 1664525; the greatest
   * int is -1 and the sign's bit, and becomes the same and the sign's bit.
   */
  private static void anIntWrapsAround() {
    int drawn = (1013904223 - 1664525) / 256 % 10;
    CHECK.due("lots(1, greatest, 0)", Check.of("a").lots(1, Integer.MAX_VALUE, 0), drawn);
    CHECK.due("lots(1, -1, 0): the same but for the sign's bit", Check.of("a").lots(1, -1, 0), drawn);
  }

  /** "z without its sign's bit": two seeds that differ in it alone draw alike. */
  private static void withoutTheSignsBit() {
    for (int z : SEEDS) {
      for (int what = 0; what <= 1; what++) {
        ClosuresThatBounce x = Check.of("?-a3++*a9*bcdX1");
        CHECK.due("the seed " + z, x.lots(20, z, what), x.lots(20, z ^ Integer.MIN_VALUE, what));
      }
    }
  }

  /** "each from now": what one RUN sets and sees is gone in the next. */
  private static void eachFromNow() {
    int[] drawn = draws(5, 120);
    int together = 0;
    for (int run = 0; run < 20; run++) {
      together += drawn[6 * run] + 1;
    }
    ClosuresThatBounce x = Check.of("pPSa+a1");
    CHECK.due("lots(20, 5, 0)", x.lots(20, 5, 0), together);
    CHECK.due("again", x.lots(20, 5, 0), together);
    CHECK.due("global(0)", x.global(0), 0);
    CHECK.due("cache(0, 3)", x.cache(0, 3), 0);
    CHECK.due("count(5)", x.count(5), 0);
  }

  /** "NUMBERS with which they end, together": others are not among them. */
  private static void numbersTogether() {
    ClosuresThatBounce x = Check.of("**9+92+1*+91+91");
    CHECK.due("20 times 9999", x.lots(20, 0, 0), 199980);
    Check.tell(x, "-0**9+92+1*+91+91");
    CHECK.due("20 times -9999", x.lots(20, 0, 0), -199980);
    for (String other : new String[] {"C12", "Fd1", "X1", "WX1"}) {
      Check.tell(x, other);
      CHECK.due(other, x.lots(20, 0, 0), 0);
    }
  }

  /** "how many end with a FAULT". */
  private static void faults() {
    int[] drawn = draws(9, 120);
    ClosuresThatBounce x = Check.of("?-f4?e1P1X1");
    int faults = 0;
    int numbers = 0;
    for (int n = 1; n <= 20; n++) {
      int e = drawn[6 * n - 2];
      int f = drawn[6 * n - 1];
      faults += f == 4 ? 1 : 0;
      numbers += f != 4 && e != 0 ? 1 : 0;
      CHECK.due("FAULTS of " + n, x.lots(n, 9, 1), faults);
      CHECK.due("NUMBERS of " + n, x.lots(n, 9, 0), numbers);
    }
    CHECK.holds("there are some and others", faults > 0 && numbers > 0 && faults + numbers < 20);
  }
}
