/** Promises 9 and 15: cache, changes. */
public final class CachesTest {
  private static final Check CHECK = new Check("CachesTest");

  public static void main(String[] args) {
    oneSite();
    severalSites();
    whatIsNoHitAndNoMiss();
    refusals();
    CHECK.finish();
  }

  private static void look(ClosuresThatBounce x, int site, int... want) {
    for (int what = 0; what < want.length; what++) {
      CHECK.due("cache(" + site + ", " + what + ")", x.cache(site, what), want[what]);
    }
  }

  private static void oneSite() {
    ClosuresThatBounce x = Check.of("Le?aP1?bB23C45pe");
    look(x, 0, 0, 0, 0, 0);
    x.sets(0, 1);
    CHECK.due("changes()", x.changes(), 1);
    x.run();
    look(x, 0, 1, 1, 0, 1);
    CHECK.due("changes()", x.changes(), 0);
    x.run();
    look(x, 0, 1, 1, 1, 1);
    x.sets(0, 0);
    x.sets(1, 1);
    CHECK.due("changes()", x.changes(), 1);
    x.run();
    look(x, 0, 2, 5, 1, 2);
    x.run();
    look(x, 0, 2, 5, 2, 2);
    x.sets(1, 0);
    CHECK.due("changes()", x.changes(), 1);
    look(x, 0, 2, 5, 2, 2);
    x.run();
    look(x, 0, 3, 13, 2, 3);
    CHECK.due("changes()", x.changes(), 0);
    x.run();
    look(x, 0, 3, 13, 2, 4);
    x.sets(0, 1);
    x.run();
    look(x, 0, 3, 13, 2, 5);
    CHECK.due("count(3)", x.count(3), 2);
    CHECK.due("count(4)", x.count(4), 5);
  }

  private static void severalSites() {
    ClosuresThatBounce x = Check.of("++qQ1pB12?aqC12pP9");
    CHECK.due("count(1)", x.count(1), 4);
    CHECK.due("changes()", x.changes(), 3);
    x.run();
    look(x, 0, 1, 2, 0, 1);
    look(x, 1, 1, 4, 0, 1);
    look(x, 2, 0, 0, 0, 0);
    look(x, 3, 1, 1, 0, 1);
    x.sets(0, 1);
    CHECK.due("changes()", x.changes(), 1);
    x.run();
    look(x, 0, 1, 2, 1, 1);
    look(x, 2, 1, 8, 0, 1);
    look(x, 3, 1, 1, 0, 1);
    CHECK.due("count(3)", x.count(3), 2);
    CHECK.due("count(4)", x.count(4), 4);
    x = Check.of("LfFcpc,@fP1,@fB12,@fP3@fC45");
    CHECK.due("changes()", x.changes(), 1);
    x.run();
    look(x, 0, 3, 13, 1, 3);
    x.run();
    look(x, 0, 3, 13, 1, 7);
  }

  private static void whatIsNoHitAndNoMiss() {
    ClosuresThatBounce x = Check.of("p?aQ1?bFc14");
    x.run();
    x.sets(1, 1);
    x.run();
    x.sets(0, 1);
    x.run();
    look(x, 0, 0, 0, 0, 0);
    CHECK.due("changes()", x.changes(), 0);
    x = Check.of("+pP1X1");
    x.run();
    look(x, 0, 1, 1, 0, 1);
  }

  private static void refusals() {
    ClosuresThatBounce x = new ClosuresThatBounce();
    CHECK.due("cache(0, 0)", x.cache(0, 0), -1);
    Check.tell(x, "pqP1");
    CHECK.due("cache(2, 9)", x.cache(2, 9), -1);
    CHECK.due("cache(-1, 0)", x.cache(-1, 0), -1);
    CHECK.due("cache(greatest, 0)", x.cache(Integer.MAX_VALUE, 0), -1);
    CHECK.due("cache(1, 4)", x.cache(1, 4), -2);
    CHECK.due("cache(0, -1)", x.cache(0, -1), -2);
    CHECK.due("count(11)", x.count(11), 4);
    CHECK.due("count(12)", x.count(12), 2);
  }
}
