/** The edges of promises 19 to 22: the ROW, WHAT IT WAS, JUDGED. */
public final class RowEdgesTest {
  private static final Check CHECK = new Check("RowEdgesTest");
  private static final Twins TWINS = new Twins(CHECK);

  public static void main(String[] args) {
    numbersFromNoughtToNinetyNine();
    atMostSixteen();
    anEmptyRow();
    bitsFromNoughtToFifteen();
    asFarAsThirty();
    allOfIt();
    howTheyEnded();
    byEachVariable();
    theRowStays();
    judgedNoughtAndNinetyNine();
    theFirstThatIsNotSo();
    itEndsOtherwiseToo();
    judgedEmptiesTheRow();
    judgedByGlobalA();
    CHECK.finish();
  }

  private static void tell(ClosuresThatBounce x, int... numbers) {
    x.clear();
    for (int n : numbers) {
      x.row(n);
    }
  }

  /** "A number more of the ROW (0 .. 99): how many. -4; -6 (99 ..)". */
  private static void numbersFromNoughtToNinetyNine() {
    ClosuresThatBounce x = new ClosuresThatBounce();
    CHECK.due("row(-1)", x.row(-1), -4);
    CHECK.due("row(0)", x.row(0), 1);
    CHECK.due("row(99)", x.row(99), 2);
    CHECK.due("row(100)", x.row(100), -6);
    CHECK.due("row(least)", x.row(Integer.MIN_VALUE), -4);
    CHECK.due("row(greatest)", x.row(Integer.MAX_VALUE), -6);
    CHECK.due("count(6)", x.count(6), 2);
  }

  /** "16 at most", "-6 (99; 16, too)". */
  private static void atMostSixteen() {
    ClosuresThatBounce x = new ClosuresThatBounce();
    for (int i = 1; i <= 16; i++) {
      CHECK.due("row " + i, x.row(0), i);
      CHECK.due("count(6)", x.count(6), i);
    }
    CHECK.due("row 17", x.row(0), -6);
    CHECK.due("row 17, below", x.row(-1), -4);
    CHECK.due("row 17, above", x.row(100), -6);
    CHECK.due("count(6)", x.count(6), 16);
    CHECK.due("judge()", x.judge(), -9);
    CHECK.due("there is room again", x.row(0), 1);
    CHECK.due("clear()", x.clear(), 1);
  }

  /** An empty ROW: all of it is so, with every v; "The ROW has none then: how many it had." */
  private static void anEmptyRow() {
    for (String letters : new String[] {"0", "X0", "P0", "Fa0", "?-a3X0P1"}) {
      ClosuresThatBounce x = Check.of(letters);
      CHECK.due("whatIs(0)", x.whatIs(0), 65535);
      CHECK.due("whatIs(5)", x.whatIs(5), 65535);
      CHECK.due("judge()", x.judge(), -9);
      CHECK.due("clear()", x.clear(), 0);
      CHECK.due("count(6)", x.count(6), 0);
    }
  }

  /** "NUMBERS v 0 .. 15 (bits)": each by itself; 16 and -1 are none. */
  private static void bitsFromNoughtToFifteen() {
    String[] numbers = {"0", "1", "2", "3", "4", "5", "6", "7", "8", "9", "+91", "+92", "+93", "+94", "+95", "+96"};
    for (int v = 0; v < numbers.length; v++) {
      ClosuresThatBounce x = Check.of("?-a" + numbers[v] + "1P1");
      tell(x, 2);
      CHECK.due("a RECORD at " + v, x.whatIs(0), 1 << v);
    }
    ClosuresThatBounce x = Check.of("?-a+971P1");
    tell(x, 2);
    CHECK.due("a RECORD at 16", x.whatIs(0), 0);
    tell(x, 0);
    CHECK.due("a NUMBER at 16", x.whatIs(0), 65535);
    Check.tell(x, "?+a11P1");
    tell(x, 2);
    CHECK.due("a RECORD at -1", x.whatIs(0), 0);
  }

  /** "how RUNS WITH a GLOBAL v, v and 1, .. ended": of 16 from 15 the last is 30. */
  private static void asFarAsThirty() {
    ClosuresThatBounce x = Check.of("?-a*561P1");
    tell(x, 0, 0, 0, 0, 0, 0, 0, 0, 0, 0, 0, 0, 0, 0, 0, 2);
    CHECK.due("a RECORD at 30", x.whatIs(0), 1 << 15);
    Check.tell(x, "?-a+4*551P1");
    CHECK.due("a RECORD at 29", x.whatIs(0), 1 << 14);
    Check.tell(x, "?-a+1*561P1");
    CHECK.due("a RECORD at 31", x.whatIs(0), 0);
    tell(x, 0, 0, 0, 0, 0, 0, 0, 0, 0, 0, 0, 0, 0, 0, 0, 0);
    CHECK.due("NUMBERS alone as far as 30", x.whatIs(0), 65535);
    Check.tell(x, "?-a*561P1");
    CHECK.due("all but the last", x.whatIs(0), 32767);
  }

  /** "by which all of it is so": not the first alone, not the last alone. */
  private static void allOfIt() {
    ClosuresThatBounce x = Check.of("?-a3?-a51P1P1");
    tell(x, 2, 0, 2);
    CHECK.due("2, 0, 2", x.whatIs(0), 1 << 3);
    tell(x, 2, 0);
    CHECK.due("2, 0", x.whatIs(0), (1 << 3) + (1 << 5));
    tell(x, 0, 2);
    CHECK.due("0, 2", x.whatIs(0), (1 << 2) + (1 << 4));
    tell(x, 2, 2);
    CHECK.due("2, 2", x.whatIs(0), 0);
  }

  /** "ended (0 .. 3)": a greater number of the ROW is never so. */
  private static void howTheyEnded() {
    String[] programs = {"7", "Fa7", "P7", "X7"};
    for (int how = 0; how <= 3; how++) {
      ClosuresThatBounce x = Check.of(programs[how]);
      for (int n = 0; n <= 4; n++) {
        tell(x, n);
        CHECK.due(programs[how] + " by " + n, x.whatIs(0), n == how ? 65535 : 0);
      }
      tell(x, 99);
      CHECK.due(programs[how] + " by 99", x.whatIs(0), 0);
      tell(x, how + 4);
      CHECK.due(programs[how] + " by 4 more", x.whatIs(0), 0);
    }
  }

  private static void byEachVariable() {
    for (int v = 0; v <= 5; v++) {
      ClosuresThatBounce x = Check.of("?" + (char) ('a' + v) + "1P1");
      x.sets(v, 5);
      tell(x, 2);
      CHECK.due("whatIs(" + v + ")", x.whatIs(v), 1);
      CHECK.due("by another", x.whatIs((v + 1) % 6), 0);
      CHECK.due("global(" + v + ")", x.global(v), 5);
    }
    CHECK.due("whatIs(-1)", new ClosuresThatBounce().whatIs(-1), -1);
    CHECK.due("whatIs(6)", new ClosuresThatBounce().whatIs(6), -1);
  }

  /** "WHAT IT WAS by the ROW (it stays; bits)". */
  private static void theRowStays() {
    TWINS.look("whatIs(0)", States::used, x -> x.whatIs(0), 65535);
    TWINS.look("whatIs(0)", States::full, x -> x.whatIs(0), 0);
    ClosuresThatBounce x = Check.of("?aP1X1");
    tell(x, 3, 2);
    CHECK.due("whatIs(0)", x.whatIs(0), 1);
    CHECK.due("whatIs(0) again", x.whatIs(0), 1);
    CHECK.due("count(6)", x.count(6), 2);
    CHECK.due("row(2)", x.row(2), 3);
    CHECK.due("whatIs(0)", x.whatIs(0), 1);
    CHECK.due("clear()", x.clear(), 3);
  }

  /** "A ROW of numbers (0 .. 99 ..): JUDGED". */
  private static void judgedNoughtAndNinetyNine() {
    ClosuresThatBounce x = Check.of("*a*9+92");
    tell(x, 0, 99);
    CHECK.due("0, 99", x.judge(), -9);
    tell(x, 0, 98);
    CHECK.due("0, 98", x.judge(), 1);
    tell(x, 1, 99);
    CHECK.due("1, 99", x.judge(), 0);
    tell(x, 0, 99, 99);
    CHECK.due("198 is above all numbers of a ROW", x.judge(), 2);
    Check.tell(x, "-0a");
    tell(x, 0, 1);
    CHECK.due("-1 is below them", x.judge(), 1);
  }

  /** "the first that is not so"; "-9". */
  private static void theFirstThatIsNotSo() {
    ClosuresThatBounce x = Check.of("a");
    for (int wrong = 0; wrong <= 16; wrong++) {
      x.clear();
      for (int i = 0; i < 16; i++) {
        x.row(i == wrong ? 99 : i);
      }
      CHECK.due("wrong at " + wrong, x.judge(), wrong == 16 ? -9 : wrong);
    }
    tell(x, 0, 99, 99, 3);
    CHECK.due("wrong at 1 and 2", x.judge(), 1);
  }

  /** "(it ends otherwise, too)": a SHAPE, a VARIABLE, a CODE of that number is not so. */
  private static void itEndsOtherwiseToo() {
    ClosuresThatBounce x = Check.of("C00");
    tell(x, 3);
    CHECK.due("SHAPE 3", x.judge(), 0);
    Check.tell(x, "Fd0");
    tell(x, 3);
    CHECK.due("VARIABLE 3", x.judge(), 0);
    Check.tell(x, "p0");
    tell(x, 3);
    CHECK.due("CODE 3", x.judge(), 0);
    Check.tell(x, "3");
    tell(x, 3);
    CHECK.due("NUMBER 3", x.judge(), -9);
  }

  /** "(the ROW has none then)": whatever it answers. */
  private static void judgedEmptiesTheRow() {
    ClosuresThatBounce x = Check.of("a");
    tell(x, 0, 1, 2);
    CHECK.due("all so", x.judge(), -9);
    CHECK.due("count(6)", x.count(6), 0);
    tell(x, 0, 5, 2);
    CHECK.due("not so", x.judge(), 1);
    CHECK.due("count(6)", x.count(6), 0);
    CHECK.due("row(0)", x.row(0), 1);
    CHECK.due("clear()", x.clear(), 1);
    CHECK.due("clear()", x.clear(), 0);
  }

  /** "RUNS WITH GLOBAL a 0, 1, ..": in mind. */
  private static void judgedByGlobalA() {
    ClosuresThatBounce x = Check.of(",Sb+b1+apP*b9");
    x.sets(0, 50);
    tell(x, 9, 10, 11);
    CHECK.due("judge()", x.judge(), -9);
    CHECK.due("global(0)", x.global(0), 50);
    CHECK.due("global(1)", x.global(1), 0);
    CHECK.due("cache(0, 3)", x.cache(0, 3), 0);
    CHECK.due("count(2)", x.count(2), 0);
  }
}
