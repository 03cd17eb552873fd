import java.util.Random;

/** Long runs of calls, by lots that are always the same, held against the plain writing of the document. */
public final class AgainstPlainTest {
  private static final String NAMES = "abcdef";
  private static final String ALL = "0123456789abcdef+-*?,LSF@PQBCpqXWY";
  private final Check check = new Check("AgainstPlainTest");
  private final Random lots;
  private final ClosuresThatBounce x = new ClosuresThatBounce();
  private final Plain y = new Plain();
  private int calls = 0;

  private AgainstPlainTest(long seed) {
    lots = new Random(seed);
  }

  public static void main(String[] args) {
    int wrong = 0;
    int[] hows = new int[4];
    int[] codes = new int[20];
    int deepest = 0;
    int bounced = 0;
    for (long seed = 1; seed <= 3000 && wrong == 0; seed++) {
      AgainstPlainTest t = new AgainstPlainTest(seed);
      t.play();
      wrong += t.check.wrongSoFar();
      if (wrong != 0) {
        System.out.println("with seed " + seed);
      }
      int how = t.y.run();
      hows[how]++;
      if (how == 3) {
        codes[t.y.ended(1)]++;
      }
      deepest = Math.max(deepest, t.y.ended(3));
      bounced += t.y.ended(4) > 0 ? 1 : 0;
    }
    System.out.println("ends " + java.util.Arrays.toString(hows) + ", codes " + java.util.Arrays.toString(codes)
        + ", deepest " + deepest + ", bounced " + bounced);
    System.out.println(wrong == 0 ? "AgainstPlainTest: all alike" : "AgainstPlainTest: not alike");
    if (wrong != 0) {
      System.exit(1);
    }
  }

  private void play() {
    for (int round = 0; round < 4 && calls < 350; round++) {
      String text = someText();
      for (int i = 0; i < text.length(); i++) {
        int c = text.charAt(i);
        due("letter(" + c + ")", x.letter(c), y.letter(c));
      }
      due("program() of " + text, x.program(), y.program());
      for (int i = 0; i < 30; i++) {
        someCall();
      }
    }
    for (int what = -1; what < 19; what++) {
      due("count(" + what + ")", x.count(what), y.count(what));
    }
  }

  private void due(String call, long got, long want) {
    calls++;
    check.due(call, got, want);
  }

  private String someText() {
    int kind = lots.nextInt(10);
    if (kind == 0) {
      StringBuilder s = new StringBuilder();
      for (int i = lots.nextInt(12); i >= 0; i--) {
        s.append(ALL.charAt(lots.nextInt(ALL.length())));
      }
      return s.toString();
    }
    String text = kind < 5 ? some(4 + lots.nextInt(36)) : someRecursion();
    if (text.length() > 97) {
      text = text.substring(0, 97);
    }
    if (kind == 1 && !text.isEmpty()) {
      int i = lots.nextInt(text.length());
      return text.substring(0, i) + ALL.charAt(lots.nextInt(ALL.length())) + text.substring(i + 1);
    }
    return text;
  }

  /** A FUNCTION in a CELL that it can see itself, so that it goes on and on, or till a NUMBER is 0. */
  private String someRecursion() {
    char f = name();
    char v = name();
    String body = someBody(f, v, 3);
    String first = "@" + f + (lots.nextBoolean() ? "" + lots.nextInt(10) : some(1));
    switch (lots.nextInt(6)) {
      case 0: first = "W" + first; break;
      case 1: first = "YW" + first + name() + some(3); break;
      case 2: first = "+" + first + some(3); break;
      case 3: first = "S" + name() + first; break;
      default: break;
    }
    return "L" + f + "0,S" + f + "F" + v + body + first;
  }

  private String someBody(char f, char v, int left) {
    String call = "@" + f + (lots.nextBoolean() ? "-" + v + "1" : some(3));
    switch (lots.nextInt(left <= 0 ? 3 : 10)) {
      case 0: return "" + v;
      case 1: return call;
      case 2: return "?" + v + call + some(2);
      case 3: return "?" + v + someBody(f, v, left - 1) + some(3);
      case 4: return "," + some(3) + someBody(f, v, left - 1);
      case 5: return "L" + name() + some(3) + someBody(f, v, left - 1);
      case 6: return "Y" + someBody(f, v, left - 1) + name() + someBody(f, v, left - 1);
      case 7: return "W" + someBody(f, v, left - 1);
      case 8: return "+" + v + "?" + v + call + "0";
      default: return "+1+2" + call;
    }
  }

  private char name() {
    return NAMES.charAt(lots.nextInt(6));
  }

  private String some(int size) {
    if (size <= 1) {
      return lots.nextInt(3) == 0 ? "" + lots.nextInt(10) : "" + name();
    }
    int half = 1 + lots.nextInt(size);
    switch (lots.nextInt(22)) {
      case 0: return "+" + some(half - 1) + some(size - half);
      case 1: return "-" + some(half - 1) + some(size - half);
      case 2: return "*" + some(half - 1) + some(size - half);
      case 3: return "?" + some(size / 3) + some(size / 3) + some(size / 3);
      case 4: return "," + some(half - 1) + some(size - half);
      case 5: return "L" + name() + some(half - 1) + some(size - half);
      case 6: return "S" + name() + some(size - 1);
      case 7: return "F" + name() + some(size - 1);
      case 8: return "@" + some(half - 1) + some(size - half);
      case 9:
      case 10: return "@F" + name() + some(half - 1) + some(size - half);
      case 11: return "P" + some(size - 1);
      case 12: return "Q" + some(size - 1);
      case 13: return "B" + some(half - 1) + some(size - half);
      case 14: return "C" + some(half - 1) + some(size - half);
      case 15: return (lots.nextBoolean() ? "p" : "q") + some(size - 1);
      case 16: return (lots.nextBoolean() ? "p" : "q") + "?" + name() + "B" + some(size / 4) + some(size / 4)
          + "C" + some(size / 4) + some(size / 4);
      case 17: return "X" + some(size - 1);
      case 18: return "W" + some(size - 1);
      case 19: return "Y" + some(half - 1) + name() + some(size - half);
      case 20: return "YX" + some(half - 1) + name() + some(size - half);
      default: return "Lf0,SfFa" + some(half - 1) + some(size - half);
    }
  }

  private int from(int least, int most) {
    return least + lots.nextInt(most - least + 1);
  }

  private int number() {
    switch (lots.nextInt(8)) {
      case 0: return from(-10001, -9998);
      case 1: return from(9998, 10001);
      case 2: return lots.nextInt();
      default: return from(-21, 21);
    }
  }

  private void someCall() {
    int v = from(0, 29) == 0 ? lots.nextInt() : from(0, 19) == 0 ? from(-1, 6) : from(0, 5);
    int n = number();
    int six = from(0, 9) == 0 ? from(-1, 6) : from(0, 5);
    int two = from(0, 9) == 0 ? from(-1, 2) : from(0, 1);
    int many = from(-1, 22);
    switch (lots.nextInt(28)) {
      case 0:
      case 1:
      case 2: due("run()", x.run(), y.run()); break;
      case 3: due("global(" + v + ")", x.global(v), y.global(v)); break;
      case 4: due("sets(" + v + ", " + n + ")", x.sets(v, n), y.sets(v, n)); break;
      case 5: due("ended(" + six + ")", x.ended(six), y.ended(six)); break;
      case 6: due("code(" + (six - 1) + ")", x.code(six - 1), y.code(six - 1)); break;
      case 7:
      case 8: due("cache(" + (v - 1) + ", " + (six - 1) + ")", x.cache(v - 1, six - 1), y.cache(v - 1, six - 1)); break;
      case 9: due("thinks(" + six + ")", x.thinks(six), y.thinks(six)); break;
      case 10: due("with(" + v + ", " + n + ", " + six + ")", x.with(v, n, six), y.with(v, n, six)); break;
      case 11: due("solve(" + v + ", " + n + ")", x.solve(v, n), y.solve(v, n)); break;
      case 12: due("fewest(" + v + ", " + two + ")", x.fewest(v, two), y.fewest(v, two)); break;
      case 13: due("pure()", x.pure(), y.pure()); break;
      case 14: due("changes()", x.changes(), y.changes()); break;
      case 15: due("again(" + many + ", " + two + ")", x.again(many, two), y.again(many, two)); break;
      case 16: due("likely(" + many + ", " + two + ")", x.likely(many, two), y.likely(many, two)); break;
      case 17: due("mean(" + v + ", " + two + ")", x.mean(v, two), y.mean(v, two)); break;
      case 18: due("whatIs(" + v + ")", x.whatIs(v), y.whatIs(v)); break;
      case 19:
      case 20: int r = from(0, 9) == 0 ? n : from(0, 3); due("row(" + r + ")", x.row(r), y.row(r)); break;
      case 21: due("judge()", x.judge(), y.judge()); break;
      case 22: due("clear()", x.clear(), y.clear()); break;
      case 23: int z = lots.nextInt(); due("lots(" + many + ", " + z + ", " + two + ")", x.lots(many, z, two), y.lots(many, z, two)); break;
      case 24: due("image()", x.image(), y.image()); break;
      case 25: due("on()", x.on(), y.on()); break;
      case 26: if (n >= 0 && n < 256 && lots.nextInt(20) != 0) {
          break;
        }
        due("letter(" + n + ")", x.letter(n), y.letter(n)); break;
      default: int w = from(-2, 18); due("count(" + w + ")", x.count(w), y.count(w)); break;
    }
  }
}
