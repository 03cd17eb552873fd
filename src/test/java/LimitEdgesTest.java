/** The edges of a RUN: "DEPTH would be above 12: 5; STEP would be above 400: 6", and which CALLS BOUNCE. */
public final class LimitEdgesTest {
  private static final Check CHECK = new Check("LimitEdgesTest");
  private static final String DEEPER = "Lf0,SfFa+1@fa";
  private static final String FOREVER = "Lf0,SfFa@fa";

  public static void main(String[] args) {
    twelveDeep();
    thirteenDeep();
    aBounceIsNotDeeper();
    deeperTillItHasItsValue();
    deeperTillItHasAFault();
    aCallThatWasNotBegun();
    theGreatestDepth();
    fourHundredSteps();
    theStepTooMany();
    whatIsSetAtTheLastStep();
    notCaughtButWrapped();
    stepsBehindACaughtFault();
    whatComesToTheEnd();
    whatDoesNot();
    outsideOfAFunction();
    asManyBouncesAsCanBe();
    CHECK.finish();
  }

  /** 395 STEPS and those of the last EXPRESSION: a FUNCTION that has bounced 55 times comes to that. */
  private static ClosuresThatBounce longRun(String last) {
    ClosuresThatBounce x = Check.of("Lf0,SfFa?a@f-a1" + last + "@fb");
    x.sets(1, 55);
    return x;
  }

  private static ClosuresThatBounce deepRun(int calls) {
    ClosuresThatBounce x = Check.of("Lf0,SfFa?a+a@f-a10@fb");
    x.sets(1, calls - 1);
    return x;
  }

  /** "DEPTH would be above 12": 12 is not. */
  private static void twelveDeep() {
    CHECK.ends(deepRun(1), "1 deep", 0, 0, 11, 1, 0, 0);
    CHECK.ends(deepRun(2), "2 deep", 0, 1, 20, 2, 0, 0);
    CHECK.ends(deepRun(11), "11 deep", 0, 55, 101, 11, 0, 0);
    CHECK.ends(deepRun(12), "12 deep", 0, 66, 110, 12, 0, 0);
  }

  /** "DEPTH would be above 12: 5": the CALL is not begun, the greatest DEPTH stays 12. */
  private static void thirteenDeep() {
    CHECK.ends(deepRun(13), "13 deep", 3, 5, 116, 12, 0, 0);
    CHECK.ends(deepRun(40), "40 deep", 3, 5, 116, 12, 0, 0);
    ClosuresThatBounce x = Check.of("Lf0,SfFa?a+a@f-Sca10@fb");
    x.sets(1, 12);
    CHECK.ends(x, "both VALUES are made ahead of it", 3, 5, 8 + 12 * 10, 12, 0, 0);
    CHECK.due("global(2)", x.global(2), 1);
  }

  /** "Such a CALL within a FUNCTION BOUNCES .. it takes the place of the one that is going on." */
  private static void aBounceIsNotDeeper() {
    ClosuresThatBounce x = Check.of("Lf0LeFcc,SfFa?a+a@f-a1@e7@fb");
    x.sets(1, 11);
    CHECK.ends(x, "a BOUNCE 12 deep", 0, 73, 2 + 8 + 11 * 9 + 6, 12, 1, 0);
    x = Check.of("Lf0LeFcc,SfFa?a+a@f-a1+0@e7@fb");
    x.sets(1, 11);
    CHECK.ends(x, "a CALL 12 deep", 3, 5, 2 + 8 + 11 * 9 + 7, 12, 0, 0);
    x.sets(1, 10);
    CHECK.ends(x, "a CALL 11 deep", 0, 62, 2 + 8 + 10 * 9 + 8, 12, 0, 0);
  }

  /** "Any other CALL is 1 deeper, till it has its VALUE" "(DEPTH is how many CALLS are going on so)". */
  private static void deeperTillItHasItsValue() {
    String many = "+@f1".repeat(5) + "@f1";
    CHECK.ends("LfFaa" + many, 0, 6, 2 + 5 + 6 * 4, 1, 0, 0);
    CHECK.ends("LfFaa@f@f@f@f@f@f@f@f@f@f@f@f@f1", 0, 1, 2 + 13 * 3 + 1, 1, 0, 0);
    ClosuresThatBounce x = Check.of("Lf0,SfFa?a+a@f-a10,@fb@fb");
    x.sets(1, 11);
    CHECK.ends(x, "12 deep twice", 0, 66, 6 + 2 * 105, 12, 0, 0);
  }

  /** "till it has .. a FAULT": where it is CAUGHT, those that it ended are going on no more. */
  private static void deeperTillItHasAFault() {
    CHECK.ends(DEEPER + ",YW@f0d0YW@f0dd", 0, 7, 138, 12, 0, 0);
    CHECK.ends(DEEPER + "LeFbYW@f0dYW@f0dd@e1", 0, 7, 131, 12, 0, 0);
    ClosuresThatBounce x = Check.of("Lf0,SfFa?a+a@f-a1X3,Y@fbd0@fc");
    x.sets(1, 11);
    CHECK.ends(x, "a FAULT 12 deep", 3, 13, 10 + 11 * 9 + 4 + 1 + 3 + 4, 12, 0, 0);
    x.sets(2, 11);
    CHECK.ends(x, "12 deep again", 3, 13, 10 + 11 * 9 + 4 + 1 + 3 + 11 * 9 + 4, 12, 0, 0);
  }

  /** A FAULT of its first or its second ends a CALL that is not going on yet: no DEPTH is taken back. */
  private static void aCallThatWasNotBegun() {
    String[] faults = {"Y@X11d0", "Y@1X1d0", "Y@FccX1d0", "Y@FccpX1d0"};
    int[] steps = {5, 4, 6, 7};
    for (int i = 0; i < faults.length; i++) {
      ClosuresThatBounce x = Check.of("Lf0,SfFa?a+a@f-a10," + faults[i] + "@fb");
      x.sets(1, 11);
      CHECK.ends(x, faults[i] + ", then 12 deep", 0, 66, 6 + steps[i] + 105, 12, 0, 0);
      x.sets(1, 12);
      CHECK.ends(x, faults[i] + ", then 13 deep", 3, 5, 6 + steps[i] + 3 + 12 * 9, 12, 0, 0);
    }
  }

  /** "the greatest DEPTH": not the latest. */
  private static void theGreatestDepth() {
    CHECK.ends("5", 0, 5, 1, 0, 0, 0);
    CHECK.ends(",@Fa+0@Fbba1@Fcc2", 0, 2, 14, 2, 0, 0);
    CHECK.ends(",@Fcc2@Fa+0@Fbba1", 0, 1, 14, 2, 0, 0);
    CHECK.ends("Y@Fa+0@FbX1a1d@Fcc2", 0, 2, 15, 2, 0, 0);
  }

  /** "STEP would be above 400": 400 is not, however the RUN ends. */
  private static void fourHundredSteps() {
    CHECK.ends(longRun("1"), "396 STEPS", 0, 1, 396, 1, 55, 0);
    CHECK.ends(longRun(",1+11"), "400 STEPS, a NUMBER", 0, 2, 400, 1, 55, 0);
    CHECK.ends(longRun("PPPP1"), "400 STEPS, a RECORD", 2, 0, 400, 1, 55, 0);
    CHECK.ends(longRun(",,11Fd1"), "400 STEPS, a FUNCTION", 1, 3, 400, 1, 55, 0);
    CHECK.ends(longRun("XPPP1"), "400 STEPS, a FAULT", 3, 1, 400, 1, 55, 0);
  }

  /** "STEP would be above 400: 6": the one too many is not begun, STEPS stay 400. */
  private static void theStepTooMany() {
    CHECK.ends(longRun("P+1P1"), "just 400", 3, 1, 400, 1, 55, 0);
    CHECK.ends(longRun("PP+1P1"), "401", 3, 6, 400, 1, 55, 0);
    CHECK.ends(longRun("PPPPP1"), "401, a RECORD", 3, 6, 400, 1, 55, 0);
    CHECK.ends(longRun("XPPPP1"), "401, a FAULT", 3, 6, 400, 1, 55, 0);
    CHECK.ends(longRun("+++++111111"), "406", 3, 6, 400, 1, 55, 0);
    CHECK.ends(FOREVER + "@f0", 3, 6, 400, 1, 130, 0);
  }

  /** "A FAULT ends all that is being made (what is set stays so)." */
  private static void whatIsSetAtTheLastStep() {
    ClosuresThatBounce x = longRun("Sc+-111");
    CHECK.ends(x, "the last VALUE lacks", 3, 6, 400, 1, 55, 0);
    CHECK.due("global(2)", x.global(2), 0);
    x = longRun("ScW+11");
    CHECK.ends(x, "set by the 400th", 0, 2, 400, 1, 55, 0);
    CHECK.due("global(2)", x.global(2), 2);
    x = longRun(",Sc+231");
    CHECK.ends(x, "set ahead of the 401st", 3, 6, 400, 1, 55, 0);
    CHECK.due("global(2)", x.global(2), 5);
  }

  /** "its CODE is neither 5 nor 6: it is CAUGHT"; "W": it goes on as one of CODE 7. */
  private static void notCaughtButWrapped() {
    CHECK.ends(DEEPER + "@f0", 3, 5, 68, 12, 0, 0);
    CHECK.ends(DEEPER + "Y@f0d1", 3, 5, 69, 12, 0, 0);
    CHECK.ends(DEEPER + "W@f0", 3, 7, 69, 12, 0, 1);
    CHECK.ends(DEEPER + "YW@f0dd", 0, 7, 71, 12, 0, 0);
    CHECK.ends(DEEPER + "WY@f0d1", 3, 7, 70, 12, 0, 1);
    CHECK.ends(FOREVER + "Y@f0d1", 3, 6, 400, 1, 130, 0);
    CHECK.ends(FOREVER + "W@f0", 3, 7, 400, 1, 130, 1);
    CHECK.ends(FOREVER + "WW@f0", 3, 7, 400, 1, 130, 2);
    CHECK.ends(FOREVER + "YW@f0dd", 3, 6, 400, 1, 130, 0);
    CHECK.ends(FOREVER + "WYW@f0dd", 3, 7, 400, 1, 129, 1);
  }

  /** A FAULT that is CAUGHT at the 400th STEP leaves none for the second one. */
  private static void stepsBehindACaughtFault() {
    CHECK.ends(longRun("YXW1dd"), "CAUGHT ahead of the 400th", 0, 11, 400, 1, 55, 0);
    CHECK.ends(longRun("YXWW1dd"), "CAUGHT behind the 400th", 3, 6, 400, 1, 55, 0);
  }

  /** "that itself, or the second or third of a "?", the second of a ",", of an "L", of a "Y" that is at the END". */
  private static void whatComesToTheEnd() {
    String[] ends = {"@fb", "?1@fb0", "?00@fb", ",0@fb", "Lc0@fb", "YX0c@fb", "?1?1@fb00", "?00?00@fb", ",0,0@fb",
        "Lc0Ld0@fb", "YX0cYX0c@fb", "?1,0Lc0YX0c@fb0"};
    int[] steps = {3, 5, 5, 5, 5, 6, 7, 7, 7, 7, 9, 12};
    for (int i = 0; i < ends.length; i++) {
      CHECK.ends("LfFaa@Fb" + ends[i] + "3", 0, 3, 6 + steps[i], 1, 1, 0);
    }
  }

  /** Every other place is none, nor is one within it. */
  private static void whatDoesNot() {
    String[] others = {"W@fb", "Sb@fb", "?@fb33", ",@fb3", "Lc@fbc", "Y@fbc3", "+@fb0", "+0@fb", "-@fb0", "*1@fb",
        "pP@fb", "qQ@fb", "pB@fb0", "pC0@fb", "W?1@fb0", "W,0@fb", "WLc0@fb", "WYX0c@fb", "Y,0@fbc3", "Y?1@fb0c3",
        "?,0@fb33", ",,0@fb3", "Lc,0@fbc"};
    int[] steps = {4, 4, 5, 5, 5, 4, 5, 5, 5, 5, 5, 5, 6, 6, 6, 6, 6, 7, 6, 6, 7, 7, 7};
    for (int i = 0; i < others.length; i++) {
      CHECK.ends("LfFaa@Fb" + others[i] + "3", 0, 3, 6 + steps[i], 2, 0, 0);
    }
    CHECK.ends("LfFaa@Fb@f@fb3", 0, 3, 6 + 6, 2, 1, 0);
    CHECK.ends("LfFaa@Fb@@Fcfbb3", 0, 3, 6 + 6, 2, 1, 0);
    CHECK.ends("LfFaa@FbX@fb3", 3, 13, 6 + 4, 2, 0, 0);
  }

  /** "within a FUNCTION": what THE PROGRAM itself comes to does not BOUNCE; a FUNCTION within one does. */
  private static void outsideOfAFunction() {
    String[] programs = {"@Fbb3", "?1@Fbb30", "?00@Fbb3", ",0@Fbb3", "Lc0@Fbb3", "YX0c@Fbb3"};
    int[] steps = {4, 6, 6, 6, 6, 7};
    for (int i = 0; i < programs.length; i++) {
      CHECK.ends(programs[i], 0, 3, steps[i], 1, 0, 0);
    }
    CHECK.ends("@@FaFb@Fccb12", 0, 2, 10, 1, 1, 0);
    CHECK.ends("@W@FaFb@Fccb12", 0, 2, 11, 1, 1, 0);
    CHECK.ends("LfFb@Fccb+0@f2", 0, 2, 11, 1, 1, 0);
  }

  /** "(BOUNCES is 1 more)": as many as 400 STEPS have room for; no DEPTH comes of them. */
  private static void asManyBouncesAsCanBe() {
    CHECK.ends("LfFaa@f0", 0, 0, 6, 1, 0, 0);
    CHECK.ends("Lf0,SfFa@ff@ff", 3, 6, 400, 1, 130, 0);
    CHECK.ends("@Fa@aaFa@aa", 3, 6, 400, 1, 132, 0);
  }
}
