/** Promises 17 and 18: likely, mean. */
public final class FractionsTest {
  private static final Check CHECK = new Check("FractionsTest");

  public static void main(String[] args) {
    likely("0", 2, 1, 1);
    likely("X0", 7, 0, 1);
    likely("?aX00", 2, 1, 2);
    likely("?aX00", 20, 19, 20);
    likely("?a0X0", 20, 1, 20);
    likely("?b0X0", 5, 1, 5);
    likely("?c0X0", 6, 1, 6);
    likely("?*a*bc0X0", 20, 1, 8000);
    likely("?*a*bcX00", 20, 7999, 8000);
    likely("?*a*bcX00", 3, 26, 27);
    likely("?+a+bcP1X0", 3, 19, 27);
    likely("?+a+bcX0Fa1", 3, 8, 27);
    likely("?+a+bcX0Fa1", 4, 27, 64);
    likely("?-+a+bc2X00", 3, 2, 9);
    likely("?d0X0", 3, 0, 1);
    mean();
    othersAsNow();
    refusals();
    CHECK.finish();
  }

  private static void likely(String letters, int t, long above, long below) {
    ClosuresThatBounce x = Check.of(letters);
    CHECK.due(letters + " likely(" + t + ", 0)", x.likely(t, 0), above);
    CHECK.due(letters + " likely(" + t + ", 1)", x.likely(t, 1), below);
  }

  private static void othersAsNow() {
    ClosuresThatBounce x = Check.of("?d?a0X0X0");
    x.sets(0, 5);
    x.sets(3, 1);
    CHECK.due("likely(4, 0)", x.likely(4, 0), 1);
    CHECK.due("likely(4, 1)", x.likely(4, 1), 4);
    CHECK.due("global(0)", x.global(0), 5);
  }

  private static void mean() {
    ClosuresThatBounce x = Check.of("?a+12+3+45");
    CHECK.due("mean(0, 0)", x.mean(0, 0), (7 + 9 * 5) / 2);
    CHECK.due("mean(0, 1)", x.mean(0, 1), 5);
    CHECK.due("mean(1, 0)", x.mean(1, 0), 7);
    CHECK.due("mean(1, 1)", x.mean(1, 1), 1);
    Check.tell(x, "?-b9X12");
    CHECK.due("FAULTS count, too", x.mean(1, 0), (9 * 6 + 5));
    CHECK.due("FAULTS count, too", x.mean(1, 1), 10);
  }

  private static void refusals() {
    ClosuresThatBounce x = new ClosuresThatBounce();
    CHECK.due("likely(1, 2)", x.likely(1, 2), 4000000000000000004L);
    CHECK.due("likely(-7, 0)", x.likely(-7, 0), 4000000000000000004L);
    CHECK.due("likely(21, 2)", x.likely(21, 2), 4000000000000000006L);
    CHECK.due("likely(20, 2)", x.likely(20, 2), 4000000000000000002L);
    CHECK.due("likely(2, -1)", x.likely(2, -1), 4000000000000000002L);
    CHECK.due("mean(6, 2)", x.mean(6, 2), 4000000000000000001L);
    CHECK.due("mean(-1, 0)", x.mean(-1, 0), 4000000000000000001L);
    CHECK.due("mean(5, 2)", x.mean(5, 2), 4000000000000000002L);
    CHECK.due("mean(0, -1)", x.mean(0, -1), 4000000000000000002L);
    int[] due = {2, 4, 0, 2, 0, 1};
    for (int i = 0; i < due.length; i++) {
      CHECK.due("count(" + (11 + i) + ")", x.count(11 + i), due[i]);
    }
  }
}
