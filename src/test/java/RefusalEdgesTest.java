/**
 * "REFUSALS (the call answers the number, the first that fits in the order in which it tells them;
 * nothing changes but how many there were)": of every call that can be refused each REFUSAL, at the
 * first number that is refused and at the farthest, two that fit at once, and how it is told.
 */
public final class RefusalEdgesTest {
  private static final Check CHECK = new Check("RefusalEdgesTest");
  private static final Twins TWINS = new Twins(CHECK);
  private static final int LEAST = Integer.MIN_VALUE;
  private static final int GREATEST = Integer.MAX_VALUE;
  private static final int[] NO_VARIABLES = {-1, 6, LEAST, GREATEST};
  private static final int[] NO_ENDINGS = {-1, 6, LEAST, GREATEST};
  private static final int[] NO_PARTS = {-1, 2, LEAST, GREATEST};
  private static final int[] TOO_SMALL = {-10000, LEAST};
  private static final int[] TOO_LARGE = {10000, GREATEST};
  private static final int[] TOO_FEW = {0, -1, LEAST};
  private static final int[] TOO_MANY = {21, GREATEST};
  private static final int NOBODY = 1000000001;
  private static final int OTHER = 1000000002;
  private static final int STATE = 1000000003;
  private static final int BELOW = 1000000004;
  private static final int ROOM = 1000000006;
  private static final long LONG_NOBODY = 4000000000000000001L;
  private static final long LONG_OTHER = 4000000000000000002L;
  private static final long LONG_BELOW = 4000000000000000004L;
  private static final long LONG_ROOM = 4000000000000000006L;

  public static void main(String[] args) {
    letter();
    global();
    sets();
    endedByWhat();
    endedWithoutRun();
    codeWithoutFault();
    codeOfNoCause();
    cacheOfNoSite();
    cacheByWhat();
    thinks();
    withNoVariable();
    withNoNumber();
    withWhat();
    solve();
    fewest();
    again();
    likely();
    mean();
    whatIs();
    row();
    lots();
    on();
    whatIsNoRefusal();
    theLastThatAreTaken();
    eachKindIsCountedByItself();
    CHECK.finish();
  }

  /** "-4; -6 (255; 96, too)." */
  private static void letter() {
    for (int c : new int[] {-1, LEAST}) {
      TWINS.refuse("letter(" + c + ")", States::used, x -> x.letter(c), -4);
      TWINS.refuse("letter(" + c + ") without room", States::full, x -> x.letter(c), -4);
    }
    for (int c : new int[] {256, GREATEST}) {
      TWINS.refuse("letter(" + c + ")", States::used, x -> x.letter(c), -6);
      TWINS.refuse("letter(" + c + ") without room", States::full, x -> x.letter(c), -6);
    }
    for (int c : new int[] {0, '0', 255}) {
      TWINS.refuse("letter(" + c + ") without room", States::full, x -> x.letter(c), -6);
    }
  }

  /** "A GLOBAL. Refused as told: -1." */
  private static void global() {
    for (int v : NO_VARIABLES) {
      TWINS.refuse("global(" + v + ")", States::used, x -> x.global(v), NOBODY);
    }
  }

  /** "Refused as told: -1; -4 (-9999); -6 (9999)." */
  private static void sets() {
    for (int v : NO_VARIABLES) {
      for (int n : new int[] {0, -10000, 10000, LEAST, GREATEST}) {
        TWINS.refuse("sets(" + v + ", " + n + ")", States::used, x -> x.sets(v, n), NOBODY);
      }
    }
    for (int v = 0; v <= 5; v += 5) {
      int variable = v;
      for (int n : TOO_SMALL) {
        TWINS.refuse("sets(" + v + ", " + n + ")", States::used, x -> x.sets(variable, n), BELOW);
      }
      for (int n : TOO_LARGE) {
        TWINS.refuse("sets(" + v + ", " + n + ")", States::used, x -> x.sets(variable, n), ROOM);
      }
    }
  }

  /** "Refused as told: -2; -3.", both at once, too. */
  private static void endedByWhat() {
    for (int what : NO_ENDINGS) {
      TWINS.refuse("ended(" + what + ")", States::used, x -> x.ended(what), OTHER);
      TWINS.refuse("ended(" + what + ") without RUN", States::fresh, x -> x.ended(what), OTHER);
    }
  }

  /** "-3 STATE: there was no RUN." */
  private static void endedWithoutRun() {
    for (int i = 0; i <= 5; i++) {
      int what = i;
      TWINS.refuse("ended(" + what + ") without RUN", States::fresh, x -> x.ended(what), STATE);
    }
  }

  /** "-3 there was none, or it ended without FAULT; -1.", both at once, too. */
  private static void codeWithoutFault() {
    for (int i : new int[] {0, 1, -1, LEAST, GREATEST}) {
      TWINS.refuse("code(" + i + ") without RUN", States::fresh, x -> x.code(i), -3);
      TWINS.refuse("code(" + i + ") without FAULT", States::ended, x -> x.code(i), -3);
    }
  }

  /** "-1 NOBODY: no such .. CAUSE": the FAULT of this RUN has two CAUSES, 0 .. 2 are there. */
  private static void codeOfNoCause() {
    TWINS.look("code(0)", States::used, x -> x.code(0), 7);
    TWINS.look("code(2)", States::used, x -> x.code(2), 13);
    for (int i : new int[] {-1, 3, LEAST, GREATEST}) {
      TWINS.refuse("code(" + i + ")", States::used, x -> x.code(i), -1);
    }
  }

  /** "-1; -2.", both at once, too: this PROGRAM has two SITES. */
  private static void cacheOfNoSite() {
    TWINS.look("cache(1, 3)", States::used, x -> x.cache(1, 3), 1);
    for (int site : new int[] {-1, 2, 9, 10, LEAST, GREATEST}) {
      for (int what : new int[] {0, 3, -1, 4, LEAST, GREATEST}) {
        TWINS.refuse("cache(" + site + ", " + what + ")", States::used, x -> x.cache(site, what), -1);
      }
    }
    TWINS.refuse("cache(0, 0) of a PROGRAM without SITE", States::fresh, x -> x.cache(0, 0), -1);
  }

  /** "-2 OTHER: what." */
  private static void cacheByWhat() {
    for (int what : new int[] {-1, 4, LEAST, GREATEST}) {
      TWINS.refuse("cache(0, " + what + ")", States::used, x -> x.cache(0, what), -2);
      TWINS.refuse("cache(1, " + what + ")", States::used, x -> x.cache(1, what), -2);
    }
  }

  /** "In mind: as ended(). Refused as told: -2." */
  private static void thinks() {
    for (int what : NO_ENDINGS) {
      TWINS.refuse("thinks(" + what + ")", States::used, x -> x.thinks(what), OTHER);
      TWINS.refuse("thinks(" + what + ") without RUN", States::fresh, x -> x.thinks(what), OTHER);
    }
  }

  /** "Refused as told: -1; -4; -6; -2.": -1 ahead of all others. */
  private static void withNoVariable() {
    for (int v : NO_VARIABLES) {
      for (int n : new int[] {0, -10000, 10000}) {
        TWINS.refuse("with(" + v + ", " + n + ", 0)", States::used, x -> x.with(v, n, 0), NOBODY);
        TWINS.refuse("with(" + v + ", " + n + ", 6)", States::used, x -> x.with(v, n, 6), NOBODY);
      }
    }
  }

  /** "Refused as told: -1; -4; -6; -2.": -4 and -6 ahead of -2. */
  private static void withNoNumber() {
    for (int what : new int[] {0, 5, -1, 6}) {
      for (int n : TOO_SMALL) {
        TWINS.refuse("with(0, " + n + ", " + what + ")", States::used, x -> x.with(0, n, what), BELOW);
      }
      for (int n : TOO_LARGE) {
        TWINS.refuse("with(5, " + n + ", " + what + ")", States::used, x -> x.with(5, n, what), ROOM);
      }
    }
  }

  /** "Refused as told: -1; -4; -6; -2.": -2 at the end. */
  private static void withWhat() {
    for (int what : NO_ENDINGS) {
      TWINS.refuse("with(0, -9999, " + what + ")", States::used, x -> x.with(0, -9999, what), OTHER);
      TWINS.refuse("with(5, 9999, " + what + ")", States::used, x -> x.with(5, 9999, what), OTHER);
    }
  }

  /** "Refused as told: -1; -4; -6; or 999999999: none." */
  private static void solve() {
    for (int v : NO_VARIABLES) {
      for (int n : new int[] {0, -10000, 10000}) {
        TWINS.refuse("solve(" + v + ", " + n + ")", States::used, x -> x.solve(v, n), NOBODY);
      }
    }
    for (int n : TOO_SMALL) {
      TWINS.refuse("solve(0, " + n + ")", States::used, x -> x.solve(0, n), BELOW);
    }
    for (int n : TOO_LARGE) {
      TWINS.refuse("solve(5, " + n + ")", States::used, x -> x.solve(5, n), ROOM);
    }
    TWINS.look("solve(0, -9999)", States::used, x -> x.solve(0, -9999), 999999999);
    TWINS.look("solve(5, 9999)", States::used, x -> x.solve(5, 9999), 999999999);
  }

  /** "Refused as told: -1; -2." */
  private static void fewest() {
    for (int v : NO_VARIABLES) {
      for (int what : new int[] {0, 1, -1, 2}) {
        TWINS.refuse("fewest(" + v + ", " + what + ")", States::used, x -> x.fewest(v, what), NOBODY);
      }
    }
    for (int what : NO_PARTS) {
      TWINS.refuse("fewest(0, " + what + ")", States::used, x -> x.fewest(0, what), OTHER);
      TWINS.refuse("fewest(5, " + what + ")", States::used, x -> x.fewest(5, what), OTHER);
    }
  }

  /** "AGAIN: n RUNS (1 .. 20)", "Refused as told: -4; -6 20; -2." */
  private static void again() {
    for (int what : new int[] {0, 1, -1, 2}) {
      for (int n : TOO_FEW) {
        TWINS.refuse("again(" + n + ", " + what + ")", States::used, x -> x.again(n, what), BELOW);
      }
      for (int n : TOO_MANY) {
        TWINS.refuse("again(" + n + ", " + what + ")", States::used, x -> x.again(n, what), ROOM);
      }
    }
    for (int what : NO_PARTS) {
      TWINS.refuse("again(1, " + what + ")", States::used, x -> x.again(1, what), OTHER);
      TWINS.refuse("again(20, " + what + ")", States::used, x -> x.again(20, what), OTHER);
    }
  }

  /** "with odds 1 in t (2 .. 20)", "Refused as told: -4; -6 20; -2.", "of longs 4000000000000000000 less them". */
  private static void likely() {
    for (int part : new int[] {0, 1, -1, 2}) {
      for (int t : new int[] {1, 0, -1, LEAST}) {
        TWINS.refuse("likely(" + t + ", " + part + ")", States::used, x -> x.likely(t, part), LONG_BELOW);
      }
      for (int t : TOO_MANY) {
        TWINS.refuse("likely(" + t + ", " + part + ")", States::used, x -> x.likely(t, part), LONG_ROOM);
      }
    }
    for (int part : NO_PARTS) {
      TWINS.refuse("likely(2, " + part + ")", States::used, x -> x.likely(2, part), LONG_OTHER);
      TWINS.refuse("likely(20, " + part + ")", States::used, x -> x.likely(20, part), LONG_OTHER);
    }
  }

  /** "MEAN. Refused as told: -1; -2.", "of longs 4000000000000000000 less them". */
  private static void mean() {
    for (int v : NO_VARIABLES) {
      for (int part : new int[] {0, 1, -1, 2}) {
        TWINS.refuse("mean(" + v + ", " + part + ")", States::used, x -> x.mean(v, part), LONG_NOBODY);
      }
    }
    for (int part : NO_PARTS) {
      TWINS.refuse("mean(0, " + part + ")", States::used, x -> x.mean(0, part), LONG_OTHER);
      TWINS.refuse("mean(5, " + part + ")", States::used, x -> x.mean(5, part), LONG_OTHER);
    }
  }

  /** "WHAT IT WAS by the ROW (it stays; bits). -1." */
  private static void whatIs() {
    for (int v : NO_VARIABLES) {
      TWINS.refuse("whatIs(" + v + ")", States::used, x -> x.whatIs(v), -1);
      TWINS.refuse("whatIs(" + v + ") by an empty ROW", States::fresh, x -> x.whatIs(v), -1);
    }
  }

  /** "A number more of the ROW (0 .. 99): how many. -4; -6 (99; 16, too)." */
  private static void row() {
    for (int v : new int[] {-1, LEAST}) {
      TWINS.refuse("row(" + v + ")", States::used, x -> x.row(v), -4);
      TWINS.refuse("row(" + v + ") without room", States::full, x -> x.row(v), -4);
    }
    for (int v : new int[] {100, GREATEST}) {
      TWINS.refuse("row(" + v + ")", States::used, x -> x.row(v), -6);
      TWINS.refuse("row(" + v + ") without room", States::full, x -> x.row(v), -6);
    }
    for (int v : new int[] {0, 99}) {
      TWINS.refuse("row(" + v + ") without room", States::full, x -> x.row(v), -6);
    }
  }

  /** "n RUNS (1 .. 20)", "Refused as told: -4; -6 20; -2."; no seed is refused. */
  private static void lots() {
    for (int z : new int[] {0, LEAST, GREATEST}) {
      for (int what : new int[] {0, 1, -1, 2}) {
        for (int n : TOO_FEW) {
          TWINS.refuse("lots(" + n + ", " + z + ", " + what + ")", States::used, x -> x.lots(n, z, what), BELOW);
        }
        for (int n : TOO_MANY) {
          TWINS.refuse("lots(" + n + ", " + z + ", " + what + ")", States::used, x -> x.lots(n, z, what), ROOM);
        }
      }
      for (int what : NO_PARTS) {
        TWINS.refuse("lots(1, " + z + ", " + what + ")", States::used, x -> x.lots(1, z, what), OTHER);
        TWINS.refuse("lots(20, " + z + ", " + what + ")", States::used, x -> x.lots(20, z, what), OTHER);
      }
    }
  }

  /** "ON from it: how many EXPRESSIONS. -3 there is none." */
  private static void on() {
    TWINS.refuse("on()", States::fresh, x -> x.on(), -3);
    TWINS.refuse("on()", States::ended, x -> x.on(), -3);
    TWINS.refuse("on()", States::full, x -> x.on(), -3);
    TWINS.take("on()", States::used, x -> x.on(), 8);
  }

  /** "-9 for another what", -9 of judge() and the FAULT of the letters are no REFUSALS. */
  private static void whatIsNoRefusal() {
    for (int what : new int[] {-1, 8, 9, 10, 17, -9, LEAST, GREATEST}) {
      TWINS.look("count(" + what + ")", States::used, x -> x.count(what), -9);
    }
    TWINS.take("judge()", States::fresh, x -> x.judge(), -9);
    TWINS.take("program() of no letter", States::fresh, x -> x.program(), -1000);
    TWINS.take("program() of 96 letters", States::full, x -> x.program(), -2040);
    TWINS.take("clear()", States::fresh, x -> x.clear(), 0);
    TWINS.take("clear()", States::full, x -> x.clear(), 16);
  }

  /** Beside each first number that is refused stands a last one that is not. */
  private static void theLastThatAreTaken() {
    for (int v : new int[] {0, 5}) {
      TWINS.take("global(" + v + ")", States::used, x -> x.global(v));
      TWINS.take("ended(" + v + ")", States::used, x -> x.ended(v));
      TWINS.take("thinks(" + v + ")", States::used, x -> x.thinks(v));
      TWINS.take("whatIs(" + v + ")", States::used, x -> x.whatIs(v));
      for (int n : new int[] {-9999, 9999}) {
        TWINS.take("sets(" + v + ", " + n + ")", States::used, x -> x.sets(v, n));
        TWINS.take("solve(" + v + ", " + n + ")", States::used, x -> x.solve(v, n));
        TWINS.take("with(" + v + ", " + n + ", 0)", States::used, x -> x.with(v, n, 0));
        TWINS.take("with(" + v + ", " + n + ", 5)", States::used, x -> x.with(v, n, 5));
      }
      for (int part : new int[] {0, 1}) {
        TWINS.take("fewest(" + v + ", " + part + ")", States::used, x -> x.fewest(v, part));
        TWINS.take("mean(" + v + ", " + part + ")", States::used, x -> x.mean(v, part));
      }
    }
    for (int part : new int[] {0, 1}) {
      for (int n : new int[] {1, 20}) {
        TWINS.take("again(" + n + ", " + part + ")", States::used, x -> x.again(n, part));
        TWINS.take("lots(" + n + ", least, " + part + ")", States::used, x -> x.lots(n, LEAST, part));
        TWINS.take("lots(" + n + ", greatest, " + part + ")", States::used, x -> x.lots(n, GREATEST, part));
      }
      TWINS.take("likely(2, " + part + ")", States::used, x -> x.likely(2, part));
      TWINS.take("likely(20, " + part + ")", States::used, x -> x.likely(20, part));
    }
    for (int what : new int[] {0, 3}) {
      TWINS.take("cache(0, " + what + ")", States::used, x -> x.cache(0, what));
      TWINS.take("cache(1, " + what + ")", States::used, x -> x.cache(1, what));
    }
    TWINS.take("letter(0)", States::used, x -> x.letter(0), 3);
    TWINS.take("letter(255)", States::used, x -> x.letter(255), 3);
    TWINS.take("row(0)", States::used, x -> x.row(0), 3);
    TWINS.take("row(99)", States::used, x -> x.row(99), 3);
  }

  /** "11 .. 16 REFUSALS -1 .. -6": each kind has a count of its own, a call is counted once. */
  private static void eachKindIsCountedByItself() {
    ClosuresThatBounce x = new ClosuresThatBounce();
    int[] due = {0, 0, 0, 0, 0, 0};
    for (int round = 1; round <= 3; round++) {
      x.global(6);
      due[0]++;
      counts(x, due);
      x.with(6, 10000, 6);
      due[0]++;
      counts(x, due);
      x.ended(6);
      due[1]++;
      counts(x, due);
      x.ended(0);
      due[2]++;
      counts(x, due);
      x.again(0, 2);
      due[3]++;
      counts(x, due);
      x.likely(21, 2);
      due[5]++;
      counts(x, due);
    }
  }

  private static void counts(ClosuresThatBounce x, int[] due) {
    for (int i = 0; i < due.length; i++) {
      CHECK.due("count(" + (11 + i) + ")", x.count(11 + i), due[i]);
    }
  }
}
