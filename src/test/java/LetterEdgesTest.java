/** The edges of promises 1 to 3: letters, the FAULT of the letters, at most 40 EXPRESSIONS and 10 SITES. */
public final class LetterEdgesTest {
  private static final Check CHECK = new Check("LetterEdgesTest");
  private static final String[] WHOLE = {"0", "a", "+12", "-12", "*12", "?123", ",12", "La12", "Sa1", "Fa1", "@12", "P1",
      "Q1", "B12", "C12", "p1", "q1", "X1", "W1", "Y1a2"};

  public static void main(String[] args) {
    lettersFromTheLeastToTheGreatest();
    atMostNinetySix();
    areNoMore();
    theEndIfSomethingLacks();
    aLetterTooMany();
    farPlacesOfKindOne();
    digitsAndVariables();
    namesOfVariables();
    fortyExpressions();
    tenSites();
    theLesserPlace();
    kindOneAheadOfKindTwo();
    aFaultChangesNothing();
    aProgramIsAsAtFirst();
    aNewObject();
    CHECK.finish();
  }

  private static int told(String letters) {
    return Check.tell(new ClosuresThatBounce(), letters);
  }

  /** "A letter (0 .. 255) comes: how many there are." */
  private static void lettersFromTheLeastToTheGreatest() {
    ClosuresThatBounce x = new ClosuresThatBounce();
    CHECK.due("letter(-1)", x.letter(-1), -4);
    CHECK.due("letter(0)", x.letter(0), 1);
    CHECK.due("letter(255)", x.letter(255), 2);
    CHECK.due("letter(256)", x.letter(256), -6);
    CHECK.due("letter(least)", x.letter(Integer.MIN_VALUE), -4);
    CHECK.due("letter(greatest)", x.letter(Integer.MAX_VALUE), -6);
    CHECK.due("count(7)", x.count(7), 2);
    CHECK.due("count(14)", x.count(14), 2);
    CHECK.due("count(16)", x.count(16), 2);
  }

  /** "told in letters (96 at most)", "-6 (255; 96, too)". */
  private static void atMostNinetySix() {
    ClosuresThatBounce x = new ClosuresThatBounce();
    for (int i = 1; i <= 96; i++) {
      CHECK.due("letter " + i, x.letter('W'), i);
    }
    CHECK.due("letter 97", x.letter('W'), -6);
    CHECK.due("count(7)", x.count(7), 96);
    CHECK.due("program()", x.program(), -1096);
    CHECK.due("there is room again", x.letter('5'), 1);
    CHECK.due("program()", x.program(), 1);
  }

  /** "The letters become THE PROGRAM, and are no more". */
  private static void areNoMore() {
    ClosuresThatBounce x = Check.of("+12");
    CHECK.due("count(7)", x.count(7), 0);
    CHECK.due("program() of none", x.program(), -1000);
    x.letter('+');
    x.letter('1');
    CHECK.due("count(7)", x.count(7), 2);
    CHECK.due("program()", x.program(), -1002);
    CHECK.due("a FAULT takes them, too", x.count(7), 0);
    CHECK.due("letter", x.letter('3'), 1);
    CHECK.due("program()", x.program(), 1);
    x.run();
    CHECK.due("ended(1)", x.ended(1), 3);
  }

  /** "kind 1 .. (the end, if something lacks): -1000 less the place". */
  private static void theEndIfSomethingLacks() {
    for (String whole : WHOLE) {
      for (int cut = 0; cut < whole.length(); cut++) {
        CHECK.due(whole.substring(0, cut), told(whole.substring(0, cut)), -1000 - cut);
        CHECK.due("behind W: " + whole.substring(0, cut), told("W" + whole.substring(0, cut)), -1001 - cut);
      }
    }
  }

  /** "the place of the first letter with which no PROGRAM can go on". */
  private static void aLetterTooMany() {
    for (String whole : WHOLE) {
      CHECK.due(whole + "0", told(whole + "0"), -1000 - whole.length());
      CHECK.due(whole + "g0", told(whole + "g0"), -1000 - whole.length());
      CHECK.due("W" + whole + "p", told("W" + whole + "p"), -1001 - whole.length());
    }
    CHECK.due("00", told("00"), -1001);
    CHECK.due("g", told("g"), -1000);
  }

  private static void farPlacesOfKindOne() {
    CHECK.due("96 lack something", told("?".repeat(96)), -1096);
    CHECK.due("96 of them, each with a name", told("Sa".repeat(48)), -1096);
    CHECK.due("96 of them, a name lacks", told("W" + "Sa".repeat(47) + "S"), -1096);
    CHECK.due("the 96th is wrong", told("W".repeat(95) + "g"), -1095);
    CHECK.due("the 2nd of 96", told("0".repeat(96)), -1001);
    CHECK.due("the first of 96", told("R".repeat(96)), -1000);
  }

  /** "a digit; a VARIABLE" "VARIABLES a .. f": the letters beside them are none; nor are 0 and 255. */
  private static void digitsAndVariables() {
    char[] are = {'0', '9', 'a', 'f'};
    char[] areNone = {'0' - 1, '9' + 1, 'a' - 1, 'f' + 1, 'A', 'F' - 1, 0, 255, 'l', 's', 'y', 'x', 'w', 'b' + 128};
    for (char c : are) {
      CHECK.due("letter " + (int) c, told("" + c), 1);
    }
    for (char c : areNone) {
      CHECK.due("letter " + (int) c, told("" + c), -1000);
      CHECK.due("+1 and letter " + (int) c, told("+1" + c), -1002);
    }
  }

  /** "L" a VARIABLE .. "S" a VARIABLE .. "F" a VARIABLE .. "Y" and one, a VARIABLE. */
  private static void namesOfVariables() {
    for (char c = 'a'; c <= 'f'; c++) {
      CHECK.due("L" + c, told("L" + c + "12"), 3);
      CHECK.due("S" + c, told("S" + c + "1"), 2);
      CHECK.due("F" + c, told("F" + c + "1"), 2);
      CHECK.due("Y" + c, told("Y1" + c + "2"), 3);
    }
    for (char c : new char[] {'a' - 1, 'f' + 1, '0', 'F', 'p', 0, 255}) {
      CHECK.due("L and letter " + (int) c, told("L" + c + "12"), -1001);
      CHECK.due("S and letter " + (int) c, told("S" + c + "1"), -1001);
      CHECK.due("F and letter " + (int) c, told("F" + c + "1"), -1001);
      CHECK.due("Y1 and letter " + (int) c, told("Y1" + c + "2"), -1002);
    }
  }

  /** "At most 40 EXPRESSIONS", "the place of the first letter of the 41st EXPRESSION .. -2000 less the place". */
  private static void fortyExpressions() {
    CHECK.due("40", told("W".repeat(39) + "0"), 40);
    CHECK.due("41", told("W".repeat(40) + "0"), -2040);
    CHECK.due("42", told("W".repeat(41) + "0"), -2040);
    CHECK.due("40 with names: 79 letters", told("Sa".repeat(39) + "0"), 40);
    CHECK.due("40 with names and a SITE", told("Sf".repeat(38) + "p0"), 40);
    CHECK.due("41 with names", told("Sa".repeat(40) + "0"), -2080);
    CHECK.due("the 41st has a name itself", told("Sa".repeat(41) + "0"), -2080);
    CHECK.due("96 letters", told("Sa".repeat(47) + "W0"), -2080);
    CHECK.due("a name between", told("Y0a" + "W".repeat(38) + "0"), -2041);
    CHECK.due("a name between, 40", told("Y0a" + "W".repeat(37) + "0"), 40);
    CHECK.due("of twos: 39", told("+".repeat(19) + "1".repeat(20)), 39);
    CHECK.due("of twos: 41", told("+".repeat(20) + "1".repeat(21)), -2040);
  }

  /** "10 SITES", "the 11th SITE .. -2000 less the place". */
  private static void tenSites() {
    CHECK.due("10 p", told("p".repeat(10) + "0"), 11);
    CHECK.due("11 p", told("p".repeat(11) + "0"), -2010);
    CHECK.due("10 q", told("q".repeat(10) + "0"), 11);
    CHECK.due("11 q", told("q".repeat(11) + "0"), -2010);
    CHECK.due("both", told("pqpqpqpqpq0"), 11);
    CHECK.due("both, 11", told("pqpqpqpqpqp0"), -2010);
    CHECK.due("far between", told("Sa".repeat(28) + "p".repeat(11) + "0"), -2066);
    CHECK.due("far between, 10", told("Sa".repeat(29) + "p".repeat(10) + "0"), 40);
  }

  /** "(the lesser place)". */
  private static void theLesserPlace() {
    CHECK.due("the 11th SITE first", told("p".repeat(11) + "W".repeat(40) + "0"), -2010);
    CHECK.due("the 11th SITE just first", told("W".repeat(29) + "p".repeat(12) + "0"), -2039);
    CHECK.due("both at once", told("W".repeat(30) + "p".repeat(11) + "0"), -2040);
    CHECK.due("the 41st EXPRESSION just first", told("W".repeat(31) + "p".repeat(11) + "0"), -2040);
    CHECK.due("the 41st EXPRESSION first", told("W".repeat(50) + "p".repeat(11) + "0"), -2040);
  }

  /** "else kind 2": behind the 41st or the 11th, too, kind 1 is told. */
  private static void kindOneAheadOfKindTwo() {
    CHECK.due("something lacks", told("W".repeat(41)), -1041);
    CHECK.due("too many", told("W".repeat(40) + "00"), -1041);
    CHECK.due("a wrong letter", told("p".repeat(11) + "g"), -1011);
    CHECK.due("at the end of 96", told("p".repeat(96)), -1096);
    CHECK.due("ahead of them", told("g" + "W".repeat(41) + "0"), -1000);
    CHECK.due("a wrong name", told("p".repeat(11) + "SA0"), -1012);
  }

  /** "the FAULT of the letters (nothing is counted)": all is as it was. */
  private static void aFaultChangesNothing() {
    String[] faults = {"", "+1", "g", "W".repeat(40) + "0", "p".repeat(11) + "0", "?".repeat(96)};
    for (String fault : faults) {
      ClosuresThatBounce x = Check.of(",Sa+a1pP4");
      x.run();
      x.run();
      x.row(9);
      CHECK.holds("a FAULT of " + fault, Check.tell(x, fault) <= -1000);
      int[] due = {8, 1, 1, 1, 1, 2, 1, 0};
      for (int what = 0; what < due.length; what++) {
        CHECK.due("then count(" + what + ")", x.count(what), due[what]);
      }
      for (int what = 11; what <= 16; what++) {
        CHECK.due("then count(" + what + ")", x.count(what), 0);
      }
      CHECK.due("then global(0)", x.global(0), 2);
      CHECK.due("then ended(2)", x.ended(2), 8);
      CHECK.due("then cache(0, 1)", x.cache(0, 1), 1);
      CHECK.due("then run()", x.run(), 0);
      CHECK.due("then ended(1)", x.ended(1), 4);
      CHECK.due("then cache(0, 2)", x.cache(0, 2), 2);
    }
  }

  /** "all its CACHES are as at first, there was no RUN": the same letters once more, too; GLOBALS stay. */
  private static void aProgramIsAsAtFirst() {
    ClosuresThatBounce x = Check.of(",Sa+a1pP4");
    x.run();
    x.run();
    x.row(9);
    CHECK.due("program()", Check.tell(x, ",Sa+a1pP4"), 8);
    int[] due = {8, 1, 0, 0, 0, 0, 1, 0};
    for (int what = 0; what < due.length; what++) {
      CHECK.due("then count(" + what + ")", x.count(what), due[what]);
    }
    for (int what = 0; what <= 3; what++) {
      CHECK.due("then cache(0, " + what + ")", x.cache(0, what), 0);
    }
    CHECK.due("then global(0)", x.global(0), 2);
    CHECK.due("then ended(0)", x.ended(0), 1000000003);
    CHECK.due("then code(0)", x.code(0), -3);
    CHECK.due("then changes()", x.changes(), 1);
    CHECK.due("fewer SITES", Check.tell(x, "7"), 1);
    CHECK.due("then count(1)", x.count(1), 0);
    CHECK.due("then cache(0, 0)", x.cache(0, 0), -1);
  }

  /** "THE PROGRAM is "0", GLOBALS are 0, there was no RUN." */
  private static void aNewObject() {
    ClosuresThatBounce x = new ClosuresThatBounce();
    CHECK.due("count(0)", x.count(0), 1);
    CHECK.due("count(2)", x.count(2), 0);
    for (int variable = 0; variable <= 5; variable++) {
      CHECK.due("global(" + variable + ")", x.global(variable), 0);
    }
    CHECK.due("ended(0)", x.ended(0), 1000000003);
    CHECK.due("code(0)", x.code(0), -3);
    CHECK.due("cache(0, 0)", x.cache(0, 0), -1);
    CHECK.due("on()", x.on(), -3);
    CHECK.due("whatIs(0)", x.whatIs(0), 65535);
    CHECK.due("judge()", x.judge(), -9);
    CHECK.due("clear()", x.clear(), 0);
    CHECK.due("pure()", x.pure(), 1);
    CHECK.due("changes()", x.changes(), 0);
    CHECK.ends(x, "0", 0, 0, 1, 0, 0, 0);
    CHECK.due("a new object beside it", new ClosuresThatBounce().count(2), 0);
  }
}
