/** Promises 4 to 8: global, sets, run, ended, code; the VALUES, FAULTS, CALLS of the document. */
public final class RunsTest {
  private static final Check CHECK = new Check("RunsTest");
  private static final String FOREVER = "Lf0,SfFa@fa";
  private static final String DEEPER = "Lf0,SfFa+1@fa";

  public static void main(String[] args) {
    globals();
    values();
    cells();
    functions();
    records();
    faults();
    wrappedAndCaught();
    limits();
    bounces();
    codes();
    runsOneBehindTheOther();
    refusals();
    CHECK.finish();
  }

  private static void globals() {
    ClosuresThatBounce x = new ClosuresThatBounce();
    for (int variable = 0; variable < 6; variable++) {
      CHECK.due("sets", x.sets(variable, variable - 9999), 0);
      CHECK.due("sets again", x.sets(variable, 9999 - variable), variable - 9999);
    }
    for (int variable = 0; variable < 6; variable++) {
      CHECK.due("global", x.global(variable), 9999 - variable);
    }
    CHECK.due("sets(6, 10000)", x.sets(6, 10000), 1000000001);
    CHECK.due("sets(-1, 0)", x.sets(-1, 0), 1000000001);
    CHECK.due("sets(0, -10000)", x.sets(0, -10000), 1000000004);
    CHECK.due("sets(0, 10000)", x.sets(0, 10000), 1000000006);
    CHECK.due("global(-1)", x.global(-1), 1000000001);
    CHECK.due("global(6)", x.global(6), 1000000001);
    CHECK.due("global(0)", x.global(0), 9999);
    CHECK.due("count(11)", x.count(11), 4);
    CHECK.due("count(14)", x.count(14), 1);
    CHECK.due("count(16)", x.count(16), 1);
  }

  private static void values() {
    CHECK.ends("7", 0, 7, 1, 0, 0, 0);
    CHECK.ends("+12", 0, 3, 3, 0, 0, 0);
    CHECK.ends("-12", 0, -1, 3, 0, 0, 0);
    CHECK.ends("*98", 0, 72, 3, 0, 0, 0);
    CHECK.ends("?123", 0, 2, 3, 0, 0, 0);
    CHECK.ends("?-01+234", 0, 5, 7, 0, 0, 0);
    CHECK.ends("?023", 0, 3, 3, 0, 0, 0);
    CHECK.ends(",12", 0, 2, 3, 0, 0, 0);
    CHECK.ends("f", 0, 0, 1, 0, 0, 0);
    ClosuresThatBounce x = Check.of("-c*bb");
    x.sets(1, 12);
    x.sets(2, 100);
    CHECK.ends(x, "-c*bb", 0, -44, 5, 0, 0, 0);
    x.sets(1, 99);
    x.sets(2, -198);
    CHECK.ends(x, "-198 less 9801", 0, -9999, 5, 0, 0, 0);
    x.sets(2, -199);
    CHECK.ends(x, "-199 less 9801", 3, 4, 5, 0, 0, 0);
    x.sets(1, -100);
    CHECK.ends(x, "100 by itself", 3, 4, 5, 0, 0, 0);
    CHECK.ends("-Sa1Sa2", 0, -1, 5);
    x = Check.of("+ab");
    x.sets(0, 9999);
    CHECK.ends(x, "9999 and 0", 0, 9999, 3);
    x.sets(1, 1);
    CHECK.ends(x, "9999 and 1", 3, 4, 3);
  }

  private static void cells() {
    CHECK.ends("La5+a1", 0, 6, 5, 0, 0, 0);
    CHECK.ends("La1+La2aa", 0, 3, 7);
    CHECK.ends("La1La+a1a", 0, 2, 7);
    CHECK.ends("La1,Sa4a", 0, 4, 6);
    CHECK.ends("La1SaP1", 2, 0, 5);
    ClosuresThatBounce x = Check.of(",La1Sa4Sb7");
    CHECK.ends(x, "a CELL, a GLOBAL", 0, 7, 7);
    CHECK.due("global(0)", x.global(0), 0);
    CHECK.due("global(1)", x.global(1), 7);
    x = Check.of("SbP1");
    CHECK.ends(x, "SbP1", 3, 1, 3, 0, 0, 0);
    CHECK.due("global(1)", x.global(1), 0);
    CHECK.ends("SbFa1", 3, 1);
    x = Check.of(",Sa5X1");
    CHECK.ends(x, "what is set stays so", 3, 11, 5);
    CHECK.due("global(0)", x.global(0), 5);
    CHECK.ends("La1,Y,Sa2X0b0a", 0, 2);
  }

  private static void functions() {
    CHECK.ends("Fa1", 1, 0, 1, 0, 0, 0);
    CHECK.ends("FfX1", 1, 5, 1, 0, 0, 0);
    CHECK.ends("@Fa+a14", 0, 5, 6, 1, 0, 0);
    CHECK.ends("Lc0LfFa,Sc+c1c,@f0@f0", 0, 2, 23, 1, 0, 0);
    CHECK.ends("La0LeFbSabLdFba,@e7@d0", 0, 7);
    CHECK.ends("La1LfFbaLa2@f0", 0, 1);
    CHECK.ends("La1LfFba,Sa5@f0", 0, 5);
    CHECK.ends("LfFaFbSa+abLd@f1Le@f1,@d5@e1", 0, 2);
    CHECK.ends("LfFaFbSa+abLd@f1,@d5@d1", 0, 7);
    CHECK.ends("LaFaaa", 1, 0);
    CHECK.ends("@FaP@FbbaQ1", 2, 0, 9, 2, 0, 0);
    CHECK.ends("@Faa@Fbb@Fcc3", 0, 3, 10, 1, 0, 0);
  }

  private static void records() {
    CHECK.ends("P1", 2, 0, 2, 0, 0, 0);
    CHECK.ends("Q1", 2, 1, 2, 0, 0, 0);
    CHECK.ends("B12", 2, 2, 3, 0, 0, 0);
    CHECK.ends("C12", 2, 3, 3, 0, 0, 0);
    CHECK.ends("pP7", 0, 7, 3);
    CHECK.ends("qQ7", 0, 7, 3);
    CHECK.ends("pB12", 0, 1, 4);
    CHECK.ends("qB12", 0, 2, 4);
    CHECK.ends("pC12", 0, 2, 4);
    CHECK.ends("qC12", 0, 1, 4);
    CHECK.ends("CX1X2", 3, 11, 3);
    CHECK.ends("pqBP1P2", 0, 2);
    CHECK.ends("@pPFa+a12", 0, 3);
    CHECK.ends("qP1", 3, 3, 3);
    CHECK.ends("pQ1", 3, 3, 3);
    CHECK.ends("p1", 3, 3, 2);
    CHECK.ends("qFa1", 3, 3, 2);
  }

  private static void faults() {
    CHECK.ends("+1P1", 3, 1, 4);
    CHECK.ends("+P11", 3, 1, 4);
    CHECK.ends("+P1X3", 3, 13, 5);
    CHECK.ends("*Fa1-X20", 3, 12, 5);
    CHECK.ends("?P123", 3, 1, 3);
    CHECK.ends("?Fa123", 3, 1, 2);
    CHECK.ends("@1X3", 3, 2, 2);
    CHECK.ends("@P1X3", 3, 2, 3);
    CHECK.ends("@Fa1X3", 3, 13, 4, 0, 0, 0);
    CHECK.ends("X0", 3, 10, 2);
    CHECK.ends("X9", 3, 19, 2);
    CHECK.ends("X+91", 3, 4, 4);
    CHECK.ends("X-01", 3, 4, 4);
    CHECK.ends("XP1", 3, 1, 3);
    CHECK.ends("XX1", 3, 11, 3);
    CHECK.ends(",X12", 3, 11, 3);
    CHECK.ends("LaX12", 3, 11, 3);
  }

  private static void wrappedAndCaught() {
    CHECK.ends("W5", 0, 5, 2, 0, 0, 0);
    CHECK.ends("WX5", 3, 7, 3, 0, 0, 1);
    CHECK.ends("WWWX5", 3, 7, 5, 0, 0, 3);
    CHECK.ends("WP1", 2, 0, 3, 0, 0, 0);
    CHECK.ends("YX5d+d1", 0, 16, 6, 0, 0, 0);
    CHECK.ends("Y5d+d1", 0, 5, 2, 0, 0, 0);
    CHECK.ends("YWX5dd", 0, 7, 5, 0, 0, 0);
    CHECK.ends("YWX5dXd", 3, 17, 6, 0, 0, 0);
    CHECK.ends("YWX5dWXd", 3, 7, 7, 0, 0, 1);
    CHECK.ends("YX5d+P11", 3, 1, 7);
    CHECK.ends("Y@12dd", 0, 2, 4);
    CHECK.ends("Yp1dd", 0, 3);
    CHECK.ends("YX-01dd", 0, 4);
    CHECK.ends("Ld9,YX1ddd", 0, 9);
    CHECK.ends("YYX1aXaaa", 0, 4);
    CHECK.ends("YYX1aX1aa", 0, 11);
    CHECK.ends("Y,P1X2aP3", 2, 0);
    CHECK.ends("+1Y@FaX3aaa", 0, 14);
  }

  private static void limits() {
    CHECK.ends(FOREVER + "@f0", 3, 6, 400, 1, 130, 0);
    CHECK.ends(FOREVER + "Y@f0d1", 3, 6, 400, 1, 130, 0);
    CHECK.ends(FOREVER + "W@f0", 3, 7, 400, 1, 130, 1);
    CHECK.ends(FOREVER + "YW@f0d1", 3, 6, 400, 1, 130, 0);
    CHECK.ends(DEEPER + "@f0", 3, 5, 68, 12, 0, 0);
    CHECK.ends(DEEPER + "Y@f0d1", 3, 5, 69, 12, 0, 0);
    CHECK.ends(DEEPER + "YW@f0dd", 0, 7, 71, 12, 0, 0);
    CHECK.ends(DEEPER + ",YW@f0d0@Fee7", 0, 7);
    CHECK.ends(DEEPER + "LeFb@fb,YW@f0d0YW@e0dd", 0, 7);
    ClosuresThatBounce x = Check.of("Lf0,SfFa?a+a@f-a10@fb");
    x.sets(1, 11);
    CHECK.ends(x, "12 deep", 0, 66, 8 + 11 * 9 + 3, 12, 0, 0);
    x.sets(1, 12);
    CHECK.ends(x, "13 deep", 3, 5, 8 + 12 * 9, 12, 0, 0);
    x = Check.of("Lf0,SfFa?a@f-a17@fb");
    x.sets(1, 55);
    CHECK.ends(x, "55 bounces", 0, 7, 8 + 55 * 7 + 3, 1, 55, 0);
    x.sets(1, 56);
    CHECK.ends(x, "56 bounces", 3, 6, 400, 1, 56, 0);
    CHECK.due("all 400", Check.tell(x, "La0Lf0,SfFa?a@f-a17,0@fb"), 20);
    x.sets(1, 55);
    CHECK.ends(x, "400 steps", 0, 7, 400, 1, 55, 0);
  }

  private static void bounces() {
    CHECK.ends("LfFaa@Fb@fb3", 0, 3, 9, 1, 1, 0);
    CHECK.ends("LfFaa@Fb?b@fb03", 0, 3, 11, 1, 1, 0);
    CHECK.ends("LfFaa@Fb?00@fb3", 0, 3, 11, 1, 1, 0);
    CHECK.ends("LfFaa@Fb,0@fb3", 0, 3, 11, 1, 1, 0);
    CHECK.ends("LfFaa@FbLc0@fb3", 0, 3, 11, 1, 1, 0);
    CHECK.ends("LfFaa@FbYX0c@fb3", 0, 3, 12, 1, 1, 0);
    CHECK.ends("LfFaa@Fb?1,0Lc0YX0c@fb03", 0, 3, 18, 1, 1, 0);
    CHECK.ends("LfFaa@FbY@fbc03", 0, 3, 10, 2, 0, 0);
    CHECK.ends("LfFaa@FbW@fb3", 0, 3, 10, 2, 0, 0);
    CHECK.ends("LfFaa@FbSb@fb3", 0, 3, 10, 2, 0, 0);
    CHECK.ends("LfFaa@Fb?@fb103", 0, 1, 11, 2, 0, 0);
    CHECK.ends("LfFaa@Fb,@fb13", 0, 1, 11, 2, 0, 0);
    CHECK.ends("LfFaa@FbLc@fbc3", 0, 3, 11, 2, 0, 0);
    CHECK.ends("LfFaa@FbX@fb3", 3, 13, 10, 2, 0, 0);
    CHECK.ends("LfFaa@Fb+@fb13", 0, 4, 11, 2, 0, 0);
    CHECK.ends("LfFaa@FbP@fb3", 2, 0, 10, 2, 0, 0);
    CHECK.ends("LfFaa@Fb@f@fb3", 0, 3, 12, 2, 1, 0);
    CHECK.ends("LfFaa@Fb@@Fcfbb3", 0, 3, 12, 2, 1, 0);
    CHECK.ends("LfFaa@Fb,W,0@fb13", 0, 1, 14, 2, 0, 0);
    CHECK.ends(",0@Faa3", 0, 3, 6, 1, 0, 0);
    CHECK.ends(",Y@FaaX0b0@Faa3", 0, 3, 11, 1, 0, 0);
    CHECK.ends("@@FaFb@Fccb12", 0, 2, 10, 1, 1, 0);
    CHECK.ends("LfFa+Xaa@FbYX0c@fb3", 3, 13, 14, 1, 1, 0);
    CHECK.ends("LfFaWXa@Fb@fb3", 3, 7, 11, 1, 1, 1);
  }

  private static void codes() {
    ClosuresThatBounce x = new ClosuresThatBounce();
    CHECK.due("code(0) without RUN", x.code(0), -3);
    CHECK.due("code(-1) without RUN", x.code(-1), -3);
    x.run();
    CHECK.due("code(0) without FAULT", x.code(0), -3);
    Check.tell(x, "WWX4");
    x.run();
    int[] due = {7, 7, 14, -1, -1};
    for (int i = 0; i < due.length; i++) {
      CHECK.due("code(" + i + ")", x.code(i), due[i]);
    }
    CHECK.due("code(-1)", x.code(-1), -1);
    CHECK.due("code(least)", x.code(Integer.MIN_VALUE), -1);
    CHECK.due("count(13)", x.count(13), 3);
    CHECK.due("count(11)", x.count(11), 4);
    Check.tell(x, "Lf0,SfFaW+1@fa@f0");
    CHECK.ends(x, "a CAUSE a CALL", 3, 7, 8 + 12 * 6, 12, 0, 12);
    CHECK.due("code(11)", x.code(11), 7);
    CHECK.due("code(12)", x.code(12), 5);
    CHECK.due("code(13)", x.code(13), -1);
    Check.tell(x, "X4");
    x.run();
    CHECK.due("code(0)", x.code(0), 14);
    CHECK.due("code(1)", x.code(1), -1);
  }

  /** Each RUN begins with no CELL, no FUNCTION, no RECORD, no CALL of the one ahead of it. */
  private static void runsOneBehindTheOther() {
    ClosuresThatBounce x = Check.of("Lf0,SfFa?a@f-a1pPLeFbb@eb@fc");
    x.sets(1, 6);
    x.sets(2, 50);
    for (int i = 0; i < 12; i++) {
      CHECK.ends(x, "many CELLS", 0, 6, 368, 2, 50, 0);
    }
    Check.tell(x, "Lf0,SfFa?apP@f-a16@fc");
    x.sets(2, 11);
    for (int i = 0; i < 40; i++) {
      CHECK.ends(x, "many RECORDS", 0, 6, 8 + 11 * 9 + 3, 12, 0, 0);
    }
    x.sets(2, 0);
    CHECK.ends(x, "not so deep", 0, 6, 11, 1, 0, 0);
    Check.tell(x, "?aLf0,SfFb+@fbb@f17");
    x.sets(0, 1);
    CHECK.ends(x, "a FAULT deep within", 3, 5);
    x.sets(0, 0);
    CHECK.ends(x, "none behind it", 0, 7, 3, 0, 0, 0);
  }

  private static void refusals() {
    ClosuresThatBounce x = new ClosuresThatBounce();
    CHECK.due("ended(6)", x.ended(6), 1000000002);
    CHECK.due("ended(-1)", x.ended(-1), 1000000002);
    CHECK.due("ended(5)", x.ended(5), 1000000003);
    x.run();
    CHECK.due("ended(6)", x.ended(6), 1000000002);
    CHECK.due("count(12)", x.count(12), 3);
    CHECK.due("count(13)", x.count(13), 1);
  }
}
