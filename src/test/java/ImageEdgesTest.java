/** The edges of promises 24 to 26: THE IMAGE none, taken, taken again; ON from it; count. */
public final class ImageEdgesTest {
  private static final Check CHECK = new Check("ImageEdgesTest");
  private static final Twins TWINS = new Twins(CHECK);

  public static void main(String[] args) {
    noneTaken();
    ofANewObject();
    taken();
    takenAgain();
    onAgainAndAgain();
    onWithoutChange();
    whatIsNotOfIt();
    aRunAndNoRun();
    aLongProgramAndAShort();
    everyPartOfTheProgram();
    partsAtTheSamePlace();
    takingChangesNothing();
    runsAtMostNinetyNine();
    runsOfTheImage();
    runsInMindAreNone();
    everyWhat();
    anotherWhat();
    aLongLife();
    CHECK.finish();
  }

  private static void counts(String when, ClosuresThatBounce x, int... want) {
    for (int what = 0; what < want.length; what++) {
      CHECK.due(when + ": count(" + what + ")", x.count(what), want[what]);
    }
  }

  /** "-3 there is none." */
  private static void noneTaken() {
    ClosuresThatBounce x = Check.of("+12");
    CHECK.due("on()", x.on(), -3);
    x.run();
    CHECK.due("on()", x.on(), -3);
    CHECK.due("count(13)", x.count(13), 2);
    counts("THE PROGRAM stays", x, 3, 0, 1, 0, 0, 1, 0, 0);
  }

  private static void ofANewObject() {
    ClosuresThatBounce x = new ClosuresThatBounce();
    CHECK.due("image()", x.image(), 1);
    Check.tell(x, ",Sa5pP7");
    x.run();
    CHECK.due("on()", x.on(), 1);
    counts("as a new one", x, 1, 0, 0, 0, 0, 0, 0, 0);
    CHECK.due("global(0)", x.global(0), 0);
    CHECK.due("ended(0)", x.ended(0), 1000000003);
    CHECK.ends(x, "0", 0, 0, 1, 0, 0, 0);
  }

  /** "THE IMAGE: THE PROGRAM, GLOBALS, CACHES, THE LATEST RUN; ON from it all is as then." */
  private static void taken() {
    ClosuresThatBounce x = taught();
    CHECK.due("image()", x.image(), 10);
    spoil(x);
    CHECK.due("on()", x.on(), 10);
    asTaught(x);
  }

  /** 10 EXPRESSIONS, 1 SITE; behind three RUNS: a 3, HITS 2, MISSES 1, a FAULT with a CAUSE. */
  private static ClosuresThatBounce taught() {
    ClosuresThatBounce x = Check.of(",Sa+a1WXpPb");
    x.sets(1, 6);
    x.sets(5, -4);
    x.run();
    x.run();
    x.run();
    return x;
  }

  private static void spoil(ClosuresThatBounce x) {
    for (int v = 0; v <= 5; v++) {
      x.sets(v, 77 + v);
    }
    Check.tell(x, "+qQ1@Fapa?aB12C12");
    x.run();
    x.sets(0, 0);
    x.run();
  }

  private static void asTaught(ClosuresThatBounce x) {
    counts("as then", x, 10, 1, 1, 2, 1, 3, 0, 0);
    int[] globals = {3, 6, 0, 0, 0, -4};
    int[] ended = {3, 7, 10, 0, 0, 1};
    int[] cache = {1, 1, 2, 1};
    for (int i = 0; i <= 5; i++) {
      CHECK.due("global(" + i + ")", x.global(i), globals[i]);
      CHECK.due("ended(" + i + ")", x.ended(i), ended[i]);
      CHECK.due("thinks(" + i + ")", x.thinks(i), ended[i]);
    }
    for (int what = 0; what <= 3; what++) {
      CHECK.due("cache(0, " + what + ")", x.cache(0, what), cache[what]);
    }
    CHECK.due("cache(1, 0)", x.cache(1, 0), -1);
    CHECK.due("code(0)", x.code(0), 7);
    CHECK.due("code(1)", x.code(1), 16);
    CHECK.due("code(2)", x.code(2), -1);
  }

  /** "THE IMAGE is taken": the one that was there is there no more. */
  private static void takenAgain() {
    ClosuresThatBounce x = Check.of("+12");
    CHECK.due("image()", x.image(), 3);
    Check.tell(x, "P1");
    x.sets(0, 8);
    x.run();
    CHECK.due("image() again", x.image(), 2);
    Check.tell(x, "7");
    x.sets(0, 9);
    CHECK.due("on()", x.on(), 2);
    CHECK.due("global(0)", x.global(0), 8);
    CHECK.due("ended(0)", x.ended(0), 2);
    counts("the second", x, 2, 0, 1, 0, 0, 1, 0, 0);
  }

  /** ON does not use it up, and what comes later does not reach it. */
  private static void onAgainAndAgain() {
    ClosuresThatBounce x = taught();
    x.image();
    for (int i = 0; i < 3; i++) {
      spoil(x);
      CHECK.due("on()", x.on(), 10);
      asTaught(x);
      x.run();
      CHECK.due("a RUN more", x.global(0), 4);
    }
    x.sets(2, 5);
    CHECK.due("taken again behind ON", x.image(), 10);
    spoil(x);
    CHECK.due("on()", x.on(), 10);
    CHECK.due("global(0)", x.global(0), 4);
    CHECK.due("global(2)", x.global(2), 5);
  }

  private static void onWithoutChange() {
    ClosuresThatBounce x = taught();
    x.image();
    CHECK.due("on()", x.on(), 10);
    asTaught(x);
    CHECK.due("on()", x.on(), 10);
    asTaught(x);
  }

  /** Letters, the ROW and REFUSALS are not of THE IMAGE. */
  private static void whatIsNotOfIt() {
    ClosuresThatBounce x = taught();
    x.row(1);
    x.letter('+');
    x.global(6);
    x.image();
    x.row(2);
    x.row(3);
    x.letter('1');
    x.global(6);
    x.ended(6);
    CHECK.due("on()", x.on(), 10);
    CHECK.due("count(6)", x.count(6), 3);
    CHECK.due("count(7)", x.count(7), 2);
    CHECK.due("count(11)", x.count(11), 2);
    CHECK.due("count(12)", x.count(12), 1);
    CHECK.due("letter", x.letter('2'), 3);
    CHECK.due("program()", x.program(), 3);
    CHECK.due("clear()", x.clear(), 3);
  }

  private static void aRunAndNoRun() {
    ClosuresThatBounce x = Check.of("X1");
    x.image();
    x.run();
    CHECK.due("code(0)", x.code(0), 11);
    x.on();
    CHECK.due("there was no RUN then", x.code(0), -3);
    CHECK.due("count(2)", x.count(2), 0);
    CHECK.due("count(5)", x.count(5), 0);
    x.run();
    x.image();
    Check.tell(x, "X1");
    CHECK.due("count(2)", x.count(2), 0);
    x.on();
    CHECK.due("there was a RUN then", x.code(0), 11);
    CHECK.due("count(2)", x.count(2), 1);
  }

  /** All of 40 EXPRESSIONS and of 10 SITES are kept. */
  private static void aLongProgramAndAShort() {
    String letters = "W".repeat(19) + "p".repeat(10) + "P".repeat(10) + "7";
    ClosuresThatBounce x = Check.of(letters);
    x.run();
    CHECK.due("image()", x.image(), 40);
    Check.tell(x, "+" + "q".repeat(10) + "Q".repeat(10) + "8" + "?0" + "W".repeat(14) + "01");
    CHECK.due("count(0)", x.count(0), 40);
    x.run();
    Check.tell(x, "0");
    CHECK.due("on()", x.on(), 40);
    CHECK.due("count(1)", x.count(1), 10);
    CHECK.ends(x, letters, 0, 7, 40, 0, 0, 0);
    for (int site = 0; site <= 9; site++) {
      CHECK.due("cache(" + site + ", 1)", x.cache(site, 1), 1);
      CHECK.due("cache(" + site + ", 2)", x.cache(site, 2), 1);
      CHECK.due("cache(" + site + ", 3)", x.cache(site, 3), 1);
    }
  }

  /** Seconds and thirds, VARIABLES, SITES, and what is at the END, stand elsewhere in the other PROGRAM. */
  private static void everyPartOfTheProgram() {
    String[] programs = {"Lf0,SfFb?b@f0+pP1qB23@f1", "?0WWWWWWWp0Y@Fc@FddcqQ3eX1", "@Fe?e,X1q0YX5f-f60",
        "LaWWWPWWWP1?0qqqqq0-pCa6pa"};
    int[] expressions = {21, 23, 16, 25};
    int[][] ends = {{0, 4, 23, 1, 1, 0}, {0, 3, 12, 1, 1, 0}, {0, 9, 11, 1, 0, 0}, {3, 1, 19, 0, 0, 0}};
    for (int kept = 0; kept < programs.length; kept++) {
      for (int other = 0; other < programs.length; other++) {
        ClosuresThatBounce x = Check.of(programs[kept]);
        CHECK.due(programs[kept] + " image()", x.image(), expressions[kept]);
        Check.tell(x, programs[other]);
        CHECK.ends(x, programs[other], ends[other]);
        CHECK.due(programs[kept] + " on()", x.on(), expressions[kept]);
        CHECK.ends(x, programs[kept], ends[kept]);
        CHECK.due("count(1)", x.count(1), Check.of(programs[kept]).count(1));
        CHECK.due("changes()", x.changes(), 0);
      }
    }
  }

  /** The same sign stands at the same place of both, but its parts, VARIABLE or SITE are others. */
  private static void partsAtTheSamePlace() {
    partsKept("-+455", "-4+55", 0, 4);
    partsKept("?0+45+67", "?04+67", 0, 13);
    partsKept("Lb7-ab", "Lc7-ac", 0, -7);
    partsKept("SbP1", "Lb0SbP1", 3, 1);
    partsKept("Fb1", "Fc1", 1, 1);
    ClosuresThatBounce x = Check.of("+pP1qQ2");
    x.image();
    Check.tell(x, "ppPP1");
    x.on();
    x.run();
    CHECK.due("cache(0, 1)", x.cache(0, 1), 1);
    CHECK.due("cache(1, 1)", x.cache(1, 1), 2);
  }

  private static void partsKept(String letters, String other, int how, int told) {
    ClosuresThatBounce x = Check.of(letters);
    x.image();
    Check.tell(x, other);
    x.on();
    CHECK.ends(x, letters, how, told);
  }

  private static void takingChangesNothing() {
    ClosuresThatBounce x = taught();
    x.image();
    asTaught(x);
    for (int what = 11; what <= 16; what++) {
      CHECK.due("count(" + what + ")", x.count(what), what == 11 ? 2 : 0);
    }
  }

  /** "5 RUNS since THE PROGRAM came (99 at most)". */
  private static void runsAtMostNinetyNine() {
    ClosuresThatBounce x = Check.of("pP1");
    for (int i = 1; i <= 103; i++) {
      x.run();
      CHECK.due("behind RUN " + i, x.count(5), Math.min(i, 99));
    }
    CHECK.due("all were RUNS", x.count(3), 102);
    Check.tell(x, "g");
    CHECK.due("a FAULT of the letters", x.count(5), 99);
    Check.tell(x, "1");
    CHECK.due("another PROGRAM", x.count(5), 0);
    x.run();
    CHECK.due("its RUN", x.count(5), 1);
  }

  private static void runsOfTheImage() {
    ClosuresThatBounce x = Check.of("1");
    for (int i = 0; i < 98; i++) {
      x.run();
    }
    x.image();
    for (int i = 0; i < 5; i++) {
      x.run();
    }
    CHECK.due("count(5)", x.count(5), 99);
    x.on();
    CHECK.due("as then", x.count(5), 98);
    x.run();
    CHECK.due("one more", x.count(5), 99);
    x.run();
    CHECK.due("99 at most", x.count(5), 99);
  }

  /** A RUN in mind is no RUN of count(5), and brings no HITS and MISSES of count(3) and count(4). */
  private static void runsInMindAreNone() {
    ClosuresThatBounce x = Check.of(",Sa+a1pPa");
    x.run();
    x.thinks(0);
    x.with(0, 1, 0);
    x.solve(0, 1);
    x.fewest(0, 0);
    x.pure();
    x.changes();
    x.again(20, 0);
    x.likely(2, 0);
    x.mean(0, 0);
    x.row(0);
    x.whatIs(0);
    x.judge();
    x.lots(20, 0, 0);
    counts("in mind", x, 8, 1, 1, 0, 1, 1, 0, 0);
  }

  /** "0 EXPRESSIONS, 1 SITES, 2 1 there was a RUN, 0, 3 HITS of all, 4 MISSES of all, .. 6 in the ROW, 7 letters". */
  private static void everyWhat() {
    ClosuresThatBounce x = new ClosuresThatBounce();
    counts("new", x, 1, 0, 0, 0, 0, 0, 0, 0);
    Check.tell(x, "+pP1+qQ2pB34");
    counts("a PROGRAM", x, 12, 3, 0, 0, 0, 0, 0, 0);
    x.run();
    counts("a RUN", x, 12, 3, 1, 0, 3, 1, 0, 0);
    x.run();
    x.run();
    counts("three RUNS", x, 12, 3, 1, 6, 3, 3, 0, 0);
    x.row(5);
    x.row(5);
    x.letter('a');
    counts("a ROW, letters", x, 12, 3, 1, 6, 3, 3, 2, 1);
    CHECK.due("count(15): there is no REFUSAL -5", x.count(15), 0);
  }

  /** "-9 for another what." */
  private static void anotherWhat() {
    int[] others = {-1, 8, 9, 10, 17, 18, -9, 99, -16, -11, 1 << 8, (1 << 16) + 1, Integer.MIN_VALUE,
        Integer.MAX_VALUE};
    for (int what : others) {
      TWINS.look("count(" + what + ")", States::used, x -> x.count(what), -9);
    }
  }

  /** "An object is used for at most 512 calls": the dearest one at the end answers as at the beginning. */
  private static void aLongLife() {
    ClosuresThatBounce x = Check.of("Lf0,SfFa?a@f-a1pP+ab@fc");
    x.sets(2, 53);
    int number = x.with(0, 3, 1);
    long mean = x.mean(1, 0);
    for (int i = 0; i < 400; i++) {
      x.run();
    }
    CHECK.due("with(0, 3, 1)", x.with(0, 3, 1), number);
    CHECK.due("mean(1, 0)", x.mean(1, 0), mean);
    CHECK.due("fewest(2, 1)", x.fewest(2, 1), 15);
    CHECK.due("count(3)", x.count(3), 399);
    CHECK.due("count(5)", x.count(5), 99);
  }
}
