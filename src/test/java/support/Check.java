/** Collects the answers that are not the ones due. */
final class Check {
  private final String name;
  private int wrong = 0;
  private int asked = 0;

  Check(String name) {
    this.name = name;
  }

  void due(String call, long got, long want) {
    asked++;
    if (got != want) {
      wrong++;
      System.out.println(name + ": " + call + " answered " + got + ", due is " + want);
    }
  }

  void holds(String what, boolean so) {
    due(what, so ? 1 : 0, 1);
  }

  int wrongSoFar() {
    return wrong;
  }

  /** An object whose PROGRAM is what these letters say. */
  static ClosuresThatBounce of(String letters) {
    ClosuresThatBounce x = new ClosuresThatBounce();
    tell(x, letters);
    return x;
  }

  /** What program() answers to these letters. */
  static int tell(ClosuresThatBounce x, String letters) {
    for (int i = 0; i < letters.length(); i++) {
      x.letter(letters.charAt(i));
    }
    return x.program();
  }

  /** A RUN of the letters on a new object: how it ended, what is told, STEPS, DEPTH, BOUNCES, CAUSES. */
  void ends(String letters, int... want) {
    ends(of(letters), letters, want);
  }

  void ends(ClosuresThatBounce x, String letters, int... want) {
    due(letters + " run()", x.run(), want[0]);
    for (int what = 0; what < want.length; what++) {
      due(letters + " ended(" + what + ")", x.ended(what), want[what]);
    }
  }

  void finish() {
    System.out.println(name + ": " + asked + " asked, " + wrong + " wrong");
    if (wrong != 0) {
      System.exit(1);
    }
  }
}
