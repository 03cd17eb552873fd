/** The edges of promises 9 and 15: HITS and MISSES, STATE 0 .. 3, SITES 0 .. 9, CHANGES. */
public final class CacheEdgesTest {
  private static final Check CHECK = new Check("CacheEdgesTest");
  /** The SITE's VALUE by a: 0 a RECORD of SHAPE 2, 1 of SHAPE 3, 2 of SHAPE 0 (or 1), else no RECORD. */
  private static final String OF_P = "p?a?-a1?-a27P5C65B56";
  private static final String OF_Q = "q?a?-a1?-a27Q5C56B65";

  public static void main(String[] args) {
    noneSeen();
    oneSeen();
    twoSeen();
    moreSeen();
    everyOrderOfShapes();
    noRecordOrNoSuchValue();
    aFaultLaterLeavesThem();
    sitesFromTheFirstToTheLast();
    sitesAsTheyStand();
    changesOfState();
    sinceTheProgramCame();
    manyHits();
    CHECK.finish();
  }

  private static void see(ClosuresThatBounce x, int site, int... want) {
    for (int what = 0; what <= 3; what++) {
      CHECK.due("cache(" + site + ", " + what + ")", x.cache(site, what), want[what]);
    }
  }

  private static void runWith(ClosuresThatBounce x, int a) {
    x.sets(0, a);
    x.run();
  }

  /** "SHAPES that it has seen (none at first)", "STATE: 0 none". */
  private static void noneSeen() {
    see(Check.of(OF_P), 0, 0, 0, 0, 0);
    see(Check.of(OF_Q), 0, 0, 0, 0, 0);
    CHECK.due("cache(0, -1)", Check.of(OF_P).cache(0, -1), -2);
    CHECK.due("cache(0, 4)", Check.of(OF_P).cache(0, 4), -2);
  }

  /** "1 one": the first is a MISS, the same SHAPE again a HIT. */
  private static void oneSeen() {
    ClosuresThatBounce x = Check.of(OF_P);
    runWith(x, 2);
    see(x, 0, 1, 1, 0, 1);
    runWith(x, 2);
    see(x, 0, 1, 1, 1, 1);
    x = Check.of(OF_Q);
    runWith(x, 2);
    see(x, 0, 1, 2, 0, 1);
    runWith(x, 2);
    see(x, 0, 1, 2, 1, 1);
  }

  /** "2 two": "a HIT, if it has seen that SHAPE and at most two". */
  private static void twoSeen() {
    ClosuresThatBounce x = Check.of(OF_P);
    runWith(x, 0);
    runWith(x, 1);
    see(x, 0, 2, 12, 0, 2);
    runWith(x, 0);
    see(x, 0, 2, 12, 1, 2);
    runWith(x, 1);
    see(x, 0, 2, 12, 2, 2);
  }

  /** "3 more SHAPES seen": "else a MISS", of a SHAPE that it has seen, too. */
  private static void moreSeen() {
    ClosuresThatBounce x = Check.of(OF_P);
    runWith(x, 0);
    runWith(x, 1);
    runWith(x, 2);
    see(x, 0, 3, 13, 0, 3);
    for (int a = 0; a <= 2; a++) {
      runWith(x, a);
      see(x, 0, 3, 13, 0, 4 + a);
    }
    CHECK.due("changes()", x.changes(), 0);
  }

  private static void everyOrderOfShapes() {
    int[][] orders = {{0, 1, 2}, {0, 2, 1}, {1, 0, 2}, {1, 2, 0}, {2, 0, 1}, {2, 1, 0}};
    int[] bitsOfP = {4, 8, 1};
    int[] bitsOfQ = {4, 8, 2};
    for (int[] order : orders) {
      ofOrder(OF_P, order, bitsOfP);
      ofOrder(OF_Q, order, bitsOfQ);
    }
  }

  private static void ofOrder(String letters, int[] order, int[] bits) {
    ClosuresThatBounce x = Check.of(letters);
    int seen = 0;
    for (int i = 0; i < 3; i++) {
      runWith(x, order[i]);
      seen |= bits[order[i]];
      see(x, 0, i + 1, seen, i, i + 1);
      if (i < 2) {
        runWith(x, order[i]);
        see(x, 0, i + 1, seen, i + 1, i + 1);
      }
    }
    runWith(x, order[0]);
    see(x, 0, 3, seen, 2, 4);
  }

  /** "when its VALUE is a RECORD that has the field": else it is neither, and nothing is seen. */
  private static void noRecordOrNoSuchValue() {
    for (String none : new String[] {"p7", "pFa1", "pQ1", "q7", "qFa1", "qP1", "pX1"}) {
      ClosuresThatBounce x = Check.of(none);
      CHECK.due("changes()", x.changes(), 0);
      CHECK.due(none, x.run(), 3);
      see(x, 0, 0, 0, 0, 0);
      CHECK.due("count(3)", x.count(3), 0);
      CHECK.due("count(4)", x.count(4), 0);
    }
    ClosuresThatBounce x = Check.of("p?aQ1P2");
    runWith(x, 0);
    runWith(x, 1);
    see(x, 0, 1, 1, 0, 1);
    runWith(x, 0);
    see(x, 0, 1, 1, 1, 1);
  }

  /** A RUN that ends with a FAULT, and one that is CAUGHT, leaves what the CACHES have seen. */
  private static void aFaultLaterLeavesThem() {
    ClosuresThatBounce x = Check.of("+pP1X1");
    CHECK.due("run()", x.run(), 3);
    see(x, 0, 1, 1, 0, 1);
    x = Check.of("YXqQ1dd");
    CHECK.due("run()", x.run(), 0);
    see(x, 0, 1, 2, 0, 1);
    x = Check.of("Lf0,SfFa,pP1@fa@f0");
    CHECK.due("run()", x.run(), 3);
    CHECK.due("ended(1)", x.ended(1), 6);
    see(x, 0, 1, 1, 55, 1);
  }

  /** "At most .. 10 SITES", "-1 NOBODY: no such .. SITE". */
  private static void sitesFromTheFirstToTheLast() {
    ClosuresThatBounce x = Check.of("pppppppppp" + "PPPPPPPPPP" + "1");
    CHECK.due("count(1)", x.count(1), 10);
    CHECK.due("changes()", x.changes(), 10);
    x.run();
    CHECK.due("ended(1)", x.ended(1), 1);
    for (int site = 0; site <= 9; site++) {
      see(x, site, 1, 1, 0, 1);
    }
    CHECK.due("cache(10, 0)", x.cache(10, 0), -1);
    CHECK.due("cache(-1, 0)", x.cache(-1, 0), -1);
    CHECK.due("count(3)", x.count(3), 0);
    CHECK.due("count(4)", x.count(4), 10);
    x.run();
    CHECK.due("count(3)", x.count(3), 10);
    CHECK.due("count(4)", x.count(4), 10);
    x = Check.of("ppppppppp" + "PPPPPPPPP" + "1");
    CHECK.due("cache(8, 0)", x.cache(8, 0), 0);
    CHECK.due("cache(9, 0)", x.cache(9, 0), -1);
    CHECK.due("cache(0, 0) without SITES", new ClosuresThatBounce().cache(0, 0), -1);
  }

  /** "(each is a SITE, numbered as they stand from 0)": not as they are come to. */
  private static void sitesAsTheyStand() {
    ClosuresThatBounce x = Check.of("?0pP1,qQ1?1+pB12qC34pP5");
    CHECK.due("count(1)", x.count(1), 5);
    x.run();
    see(x, 0, 0, 0, 0, 0);
    see(x, 1, 1, 2, 0, 1);
    see(x, 2, 1, 4, 0, 1);
    see(x, 3, 1, 8, 0, 1);
    see(x, 4, 0, 0, 0, 0);
    x = Check.of("pqBQ1P2");
    x.run();
    CHECK.due("the outer one is 0", x.cache(0, 1), 1);
    CHECK.due("the inner one is 1", x.cache(1, 1), 4);
  }

  /** "CHANGES: how many CACHES have another STATE behind a RUN." */
  private static void changesOfState() {
    ClosuresThatBounce x = Check.of(OF_P);
    int[] order = {0, 0, 1, 1, 2, 2, 0};
    int[] due = {1, 0, 1, 0, 1, 0, 0};
    for (int i = 0; i < order.length; i++) {
      x.sets(0, order[i]);
      CHECK.due("changes() ahead of RUN " + i, x.changes(), due[i]);
      CHECK.due("changes() again", x.changes(), due[i]);
      x.run();
    }
    x = Check.of("LfFcpc,@fP1,@fB12@fC45");
    CHECK.due("by three SHAPES in one RUN", x.changes(), 1);
    x.run();
    CHECK.due("behind it", x.changes(), 0);
    CHECK.due("without SITES", new ClosuresThatBounce().changes(), 0);
  }

  /** "HITS (2), MISSES (3) since THE PROGRAM came". */
  private static void sinceTheProgramCame() {
    ClosuresThatBounce x = Check.of("pP1");
    x.run();
    x.run();
    see(x, 0, 1, 1, 1, 1);
    Check.tell(x, "pP1");
    see(x, 0, 0, 0, 0, 0);
    x.run();
    see(x, 0, 1, 1, 0, 1);
    Check.tell(x, "pP");
    see(x, 0, 1, 1, 0, 1);
  }

  /** No bound is told for them: 100 RUNS with some 56 each. */
  private static void manyHits() {
    ClosuresThatBounce x = Check.of("Lf0,SfFa,pP1@fa@f0");
    for (int i = 0; i < 100; i++) {
      x.run();
    }
    see(x, 0, 1, 1, 5599, 1);
    CHECK.due("count(3)", x.count(3), 5599);
    CHECK.due("count(5)", x.count(5), 99);
  }
}
