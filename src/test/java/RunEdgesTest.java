/** The edges of promises 4 to 8: NUMBERS, FAULTS and their CODES, what is CAUGHT, how a RUN ended. */
public final class RunEdgesTest {
  private static final Check CHECK = new Check("RunEdgesTest");

  public static void main(String[] args) {
    globalsFromTheLeastToTheGreatest();
    sums();
    differences();
    products();
    bothAreMadeFirst();
    notZero();
    mustBeANumber();
    mustBeAFunction();
    mustBeARecordWithIt();
    toldFaults();
    setsOfGlobalsAndCells();
    whatIsSetStays();
    caughtAndNot();
    causes();
    asManyCausesAsCanBe();
    howItEnded();
    theLatestRunAlone();
    CHECK.finish();
  }

  /** A RUN of the letters with a and b: how it ended, what is told. */
  private static void with(String letters, int a, int b, int how, int told) {
    ClosuresThatBounce x = Check.of(letters);
    x.sets(0, a);
    x.sets(1, b);
    CHECK.due(letters + " of " + a + ", " + b + ": run()", x.run(), how);
    CHECK.due(letters + " of " + a + ", " + b + ": ended(1)", x.ended(1), told);
  }

  /** "NUMBERS (-9999 .. 9999)", "A GLOBAL becomes n: what it was. Refused as told: -1; -4 (-9999); -6 (9999)." */
  private static void globalsFromTheLeastToTheGreatest() {
    ClosuresThatBounce x = new ClosuresThatBounce();
    for (int variable = 0; variable <= 5; variable++) {
      CHECK.due("sets to the least", x.sets(variable, -9999), 0);
      CHECK.due("sets below it", x.sets(variable, -10000), 1000000004);
      CHECK.due("global", x.global(variable), -9999);
      CHECK.due("sets to the greatest", x.sets(variable, 9999), -9999);
      CHECK.due("sets above it", x.sets(variable, 10000), 1000000006);
      CHECK.due("global", x.global(variable), 9999);
      CHECK.due("sets to 0", x.sets(variable, 0), 9999);
    }
    CHECK.due("sets(least)", x.sets(0, Integer.MIN_VALUE), 1000000004);
    CHECK.due("sets(greatest)", x.sets(0, Integer.MAX_VALUE), 1000000006);
    CHECK.due("global(-1)", x.global(-1), 1000000001);
    CHECK.due("global(6)", x.global(6), 1000000001);
    CHECK.due("global(0)", x.global(0), 0);
  }

  /** "a NUMBER would be below -9999 or above 9999: 4". */
  private static void sums() {
    with("+ab", 9998, 1, 0, 9999);
    with("+ab", 9999, 0, 0, 9999);
    with("+ab", 9999, 1, 3, 4);
    with("+ab", 9999, 9999, 3, 4);
    with("+ab", -9998, -1, 0, -9999);
    with("+ab", -9999, 0, 0, -9999);
    with("+ab", -9999, -1, 3, 4);
    with("+ab", -9999, -9999, 3, 4);
    with("+ab", -9999, 9999, 0, 0);
  }

  private static void differences() {
    with("-ab", 9998, -1, 0, 9999);
    with("-ab", 9999, -1, 3, 4);
    with("-ab", 9999, -9999, 3, 4);
    with("-ab", -9998, 1, 0, -9999);
    with("-ab", -9999, 1, 3, 4);
    with("-ab", -9999, 9999, 3, 4);
    with("-ab", 9999, 9999, 0, 0);
    with("-ab", 0, -9999, 0, 9999);
    with("-ab", 0, 9999, 0, -9999);
  }

  private static void products() {
    with("*ab", 99, 101, 0, 9999);
    with("*ab", 100, 100, 3, 4);
    with("*ab", -99, 101, 0, -9999);
    with("*ab", -100, 100, 3, 4);
    with("*ab", -100, -100, 3, 4);
    with("*ab", 9999, 1, 0, 9999);
    with("*ab", 9999, -1, 0, -9999);
    with("*ab", -9999, -1, 0, 9999);
    with("*ab", 9999, 9999, 3, 4);
    with("*ab", -9999, 9999, 3, 4);
    with("*ab", 9999, 0, 0, 0);
    with("*ab", 5000, 2, 3, 4);
    with("*ab", 5000, -2, 3, 4);
  }

  /** "(the first one is made first; both are made ahead of what is asked of them)". */
  private static void bothAreMadeFirst() {
    for (String sign : new String[] {"+", "-", "*"}) {
      ClosuresThatBounce x = Check.of(sign + "P1Sa5");
      CHECK.ends(x, sign + " of a RECORD", 3, 1, 5);
      CHECK.due("global(0)", x.global(0), 5);
      CHECK.ends(sign + "P1X2", 3, 12, 5);
      CHECK.ends(sign + "X1X2", 3, 11, 3);
      CHECK.ends(sign + "X1P2", 3, 11, 3);
      CHECK.ends(sign + "1Fa2", 3, 1, 3);
    }
    CHECK.ends("-Sa5a", 0, 0, 4);
    CHECK.ends("BX1X2", 3, 11, 3);
    CHECK.ends("C1X2", 3, 12, 4);
  }

  /** "if it is not 0, the second one's, else the third one's". */
  private static void notZero() {
    for (int n : new int[] {1, -1, 9999, -9999, 256, 4096}) {
      with("?a78", n, 0, 0, 7);
    }
    with("?a78", 0, 1, 0, 8);
  }

  /** "a VALUE that must be a NUMBER is none: 1". */
  private static void mustBeANumber() {
    for (String none : new String[] {"P0", "Q0", "B00", "C00", "Fa0"}) {
      CHECK.ends("+" + none + "1", 3, 1);
      CHECK.ends("+1" + none, 3, 1);
      CHECK.ends("-" + none + "1", 3, 1);
      CHECK.ends("-1" + none, 3, 1);
      CHECK.ends("*" + none + "0", 3, 1);
      CHECK.ends("*0" + none, 3, 1);
      CHECK.ends("?" + none + "12", 3, 1);
      CHECK.ends("X" + none, 3, 1);
      CHECK.ends("Sa" + none, 3, 1);
      CHECK.ends("?1" + none + "2", none.charAt(0) == 'F' ? 1 : 2);
    }
  }

  /** "a FUNCTION is none: 2": "the first one's, a FUNCTION, then the second one's". */
  private static void mustBeAFunction() {
    for (String none : new String[] {"0", "7", "-01", "P0", "Q0", "B00", "C00", "PFa0"}) {
      ClosuresThatBounce x = Check.of("@" + none + "Sa5");
      CHECK.ends(x, "@" + none, 3, 2, none.replaceAll("Fa0", "F").length() + 1, 0, 0, 0);
      CHECK.due("the second one is not made", x.global(0), 0);
    }
    for (int n : new int[] {-9999, -1, 0, 1, 9998, 9999}) {
      with("@a1", n, 0, 3, 2);
    }
    CHECK.ends("@X12", 3, 11, 3);
    CHECK.ends("@Fa1X2", 3, 12, 4, 0, 0, 0);
  }

  /** "no RECORD, or it has no such VALUE: 3". */
  private static void mustBeARecordWithIt() {
    for (String none : new String[] {"0", "-01", "Fa0", "Q1"}) {
      CHECK.ends("p" + none, 3, 3);
    }
    for (String none : new String[] {"0", "-01", "Fa0", "P1"}) {
      CHECK.ends("q" + none, 3, 3);
    }
    for (int n : new int[] {-9999, -1, 0, 1, 9998, 9999}) {
      with("pa", n, 0, 3, 3);
      with("qa", n, 0, 3, 3);
    }
    CHECK.ends("pP1", 0, 1, 3);
    CHECK.ends("qQ2", 0, 2, 3);
    CHECK.ends("pB34", 0, 3, 4);
    CHECK.ends("qB34", 0, 4, 4);
    CHECK.ends("pC34", 0, 4, 4);
    CHECK.ends("qC34", 0, 3, 4);
  }

  /** "X": the VALUE, a NUMBER 0 .. 9: CODE 10 and that; another NUMBER: 4. */
  private static void toldFaults() {
    for (int n = 0; n <= 9; n++) {
      with("Xa", n, 0, 3, 10 + n);
    }
    for (int n : new int[] {-1, 10, -9999, 9999, -10, 255, 256}) {
      with("Xa", n, 0, 3, 4);
    }
  }

  /** "S" v: in the innermost CELL of v, or, a NUMBER, its GLOBAL; that VALUE. */
  private static void setsOfGlobalsAndCells() {
    for (String none : new String[] {"P1", "Q1", "B12", "C12", "Fa1"}) {
      ClosuresThatBounce x = Check.of("Sf" + none);
      x.sets(5, 3);
      CHECK.ends(x, "Sf" + none, 3, 1);
      CHECK.due("the GLOBAL stays", x.global(5), 3);
      CHECK.ends("Lf1Sf" + none, none.charAt(0) == 'F' ? 1 : 2);
    }
    ClosuresThatBounce x = Check.of("La1,La2,Sa3Sa4a");
    CHECK.ends(x, "the innermost CELL", 0, 1);
    CHECK.due("global(0)", x.global(0), 0);
    x = Check.of("La1,Lb2Sa4a");
    CHECK.ends(x, "a CELL behind another's", 0, 4);
    CHECK.due("global(0)", x.global(0), 0);
    x = Check.of(",La1a,Sa4a");
    CHECK.ends(x, "the CELL is no more", 0, 4);
    CHECK.due("global(0)", x.global(0), 4);
    x = Check.of("LaSa5a");
    CHECK.ends(x, "the first one is made without the CELL", 0, 5);
    CHECK.due("global(0)", x.global(0), 5);
  }

  /** "A FAULT ends all that is being made (what is set stays so)." */
  private static void whatIsSetStays() {
    ClosuresThatBounce x = Check.of(",Sa5,+Sb6X1Sc7");
    CHECK.ends(x, "a FAULT", 3, 11);
    CHECK.due("global(0)", x.global(0), 5);
    CHECK.due("global(1)", x.global(1), 6);
    CHECK.due("global(2)", x.global(2), 0);
    CHECK.ends("La1,Y,Sa2X0b0a", 0, 2);
    CHECK.ends("LePY1a2,YqebSe9e", 0, 9);
    x = Check.of("SaX1");
    x.sets(0, 8);
    CHECK.ends(x, "nothing is set", 3, 11);
    CHECK.due("global(0)", x.global(0), 8);
  }

  /** "its CODE is neither 5 nor 6: it is CAUGHT: its CODE is in a new CELL of v .. else the first one's VALUE". */
  private static void caughtAndNot() {
    CHECK.ends("Y+P11dd", 0, 1);
    CHECK.ends("Y@11dd", 0, 2);
    CHECK.ends("Yp1dd", 0, 3);
    CHECK.ends("YX-01dd", 0, 4);
    CHECK.ends("YWX1dd", 0, 7);
    for (int n = 0; n <= 9; n++) {
      CHECK.ends("YX" + n + "dd", 0, 10 + n, 4, 0, 0, 0);
    }
    CHECK.ends("Lf0,SfFa+1@faY@f0dd", 3, 5);
    CHECK.ends("Lf0,SfFa@faY@f0dd", 3, 6);
    CHECK.ends("Lf0,SfFa+1@faYY@f0dded", 3, 5);
    CHECK.ends("Lf0,SfFa+1@faYW@f0dd", 0, 7);
    CHECK.ends("Y8dX1", 0, 8, 2, 0, 0, 0);
    CHECK.ends("YP8dX1", 2, 0, 3, 0, 0, 0);
    CHECK.ends("Ld8YX1dd", 0, 11);
    CHECK.ends("Ld8,YX1d0d", 0, 8);
    ClosuresThatBounce x = Check.of("YX1dSd5");
    CHECK.ends(x, "a new CELL", 0, 5);
    CHECK.due("global(3)", x.global(3), 0);
    CHECK.ends("YX1dXd", 3, 4);
    CHECK.ends("YYX1dX2dd", 0, 12);
  }

  /** "W": a FAULT of what is in it goes on as one of CODE 7, whose CAUSE that is. */
  private static void causes() {
    String[] faults = {"+P11", "@11", "p1", "X-01", "X0", "X9", "WX1"};
    int[] codes = {1, 2, 3, 4, 10, 19, 7};
    for (int i = 0; i < faults.length; i++) {
      ClosuresThatBounce x = Check.of("W" + faults[i]);
      x.run();
      CHECK.due(faults[i] + " ended(1)", x.ended(1), 7);
      CHECK.due(faults[i] + " code(0)", x.code(0), 7);
      CHECK.due(faults[i] + " code(1)", x.code(1), codes[i]);
      CHECK.due(faults[i] + " ended(5)", x.ended(5), codes[i] == 7 ? 2 : 1);
    }
    ClosuresThatBounce x = Check.of("Lf0,SfFa+1@faW@f0");
    x.run();
    CHECK.due("code(1)", x.code(1), 5);
    x = Check.of("Lf0,SfFa@faW@f0");
    x.run();
    CHECK.due("code(1)", x.code(1), 6);
    CHECK.ends("WFa1", 1, 0, 2, 0, 0, 0);
    CHECK.ends("YWX1dX2", 3, 12, 6, 0, 0, 0);
    CHECK.ends("WYWX1dX2", 3, 7, 7, 0, 0, 1);
  }

  /** "how many CAUSES one behind the other; the i-th CODE (0 the FAULT's, 1 its CAUSE's ..)". */
  private static void asManyCausesAsCanBe() {
    ClosuresThatBounce x = Check.of("X3");
    x.run();
    CHECK.due("no CAUSE", x.ended(5), 0);
    CHECK.due("code(0)", x.code(0), 13);
    CHECK.due("code(1)", x.code(1), -1);
    x = Check.of("W".repeat(38) + "X0");
    CHECK.ends(x, "38 CAUSES", 3, 7, 40, 0, 0, 38);
    CHECK.due("code(37)", x.code(37), 7);
    CHECK.due("code(38)", x.code(38), 10);
    CHECK.due("code(39)", x.code(39), -1);
    x = Check.of("Lf0,SfFa" + "W".repeat(28) + "@fa@f0");
    CHECK.ends(x, "28 in each of 12 CALLS", 3, 7, 380, 12, 0, 336);
    CHECK.due("code(335)", x.code(335), 7);
    CHECK.due("code(336)", x.code(336), 5);
    CHECK.due("code(337)", x.code(337), -1);
    CHECK.due("code(-1)", x.code(-1), -1);
  }

  /** "how it ended (0 a NUMBER, 1 a FUNCTION, 2 a RECORD, 3 a FAULT); the NUMBER, SHAPE (.. its VARIABLE 0 .. 5), CODE". */
  private static void howItEnded() {
    with("a", 9999, 0, 0, 9999);
    with("a", -9999, 0, 0, -9999);
    for (int variable = 0; variable <= 5; variable++) {
      CHECK.ends("F" + (char) ('a' + variable) + "0", 1, variable, 1, 0, 0, 0);
    }
    CHECK.ends("P0", 2, 0, 2, 0, 0, 0);
    CHECK.ends("Q0", 2, 1, 2, 0, 0, 0);
    CHECK.ends("B00", 2, 2, 3, 0, 0, 0);
    CHECK.ends("C00", 2, 3, 3, 0, 0, 0);
    CHECK.ends("X0", 3, 10, 2, 0, 0, 0);
    ClosuresThatBounce x = new ClosuresThatBounce();
    x.run();
    CHECK.due("ended(-1)", x.ended(-1), 1000000002);
    CHECK.due("ended(0)", x.ended(0), 0);
    CHECK.due("ended(5)", x.ended(5), 0);
    CHECK.due("ended(6)", x.ended(6), 1000000002);
  }

  /** "THE LATEST RUN": nothing of the one ahead of it is told. */
  private static void theLatestRunAlone() {
    ClosuresThatBounce x = Check.of("Lf0,Sf?bFa+1@faFa@Fcca?aWWX1@f0");
    x.sets(0, 1);
    CHECK.ends(x, "CAUSES", 3, 7, 13, 0, 0, 2);
    x.sets(0, 0);
    CHECK.ends(x, "a BOUNCE", 0, 0, 16, 1, 1, 0);
    CHECK.due("code(0)", x.code(0), -3);
    x.sets(1, 1);
    CHECK.ends(x, "12 deep", 3, 5, 72, 12, 0, 0);
    CHECK.due("code(0)", x.code(0), 5);
    CHECK.due("code(1)", x.code(1), -1);
    x.sets(0, 1);
    CHECK.ends(x, "CAUSES again", 3, 7, 13, 0, 0, 2);
    CHECK.due("code(2)", x.code(2), 11);
  }
}
