/** Every call with every mixture of numbers at edges, held against the plain writing: none throws, all are alike. */
public final class ExtremesTest {
  private static final Check CHECK = new Check("ExtremesTest");
  private static final int[] NUMBERS = {Integer.MIN_VALUE, Integer.MIN_VALUE + 1, -65536, -10000, -9999, -21, -20, -2,
      -1, 0, 1, 2, 3, 4, 5, 6, 7, 8, 10, 11, 16, 17, 20, 21, 99, 100, 255, 256, 9999, 10000, 65536,
      Integer.MAX_VALUE - 1, Integer.MAX_VALUE};
  private static final int CALLS_OF_AN_OBJECT = 400;
  private static ClosuresThatBounce x;
  private static Plain y;
  private static int calls;

  public static void main(String[] args) {
    anew();
    for (int a : NUMBERS) {
      ofOne(a);
      for (int b : NUMBERS) {
        ofTwo(a, b);
        for (int c : NUMBERS) {
          ofThree(a, b, c);
        }
      }
    }
    CHECK.finish();
  }

  private static void anew() {
    x = new ClosuresThatBounce();
    y = new Plain();
    calls = 0;
    for (char c : ",Sb+b1?a+pBa1qC2aWX3".toCharArray()) {
      due("letter", x.letter(c), y.letter(c));
    }
    due("program()", x.program(), y.program());
    due("run()", x.run(), y.run());
    due("row(0)", x.row(0), y.row(0));
    due("image()", x.image(), y.image());
  }

  private static void due(String call, long got, long want) {
    CHECK.due(call, got, want);
    calls++;
  }

  private static void anewIfUsed() {
    if (calls >= CALLS_OF_AN_OBJECT) {
      for (int what = 0; what <= 17; what++) {
        due("count(" + what + ")", x.count(what), y.count(what));
      }
      anew();
    }
  }

  private static void ofOne(int a) {
    anewIfUsed();
    String of = "(" + a + ")";
    due("letter" + of, x.letter(a), y.letter(a));
    due("global" + of, x.global(a), y.global(a));
    due("ended" + of, x.ended(a), y.ended(a));
    due("code" + of, x.code(a), y.code(a));
    due("thinks" + of, x.thinks(a), y.thinks(a));
    due("whatIs" + of, x.whatIs(a), y.whatIs(a));
    due("row" + of, x.row(a), y.row(a));
    due("count" + of, x.count(a), y.count(a));
  }

  private static void ofTwo(int a, int b) {
    anewIfUsed();
    String of = "(" + a + ", " + b + ")";
    due("sets" + of, x.sets(a, b), y.sets(a, b));
    due("run()", x.run(), y.run());
    due("cache" + of, x.cache(a, b), y.cache(a, b));
    due("solve" + of, x.solve(a, b), y.solve(a, b));
    due("fewest" + of, x.fewest(a, b), y.fewest(a, b));
    due("again" + of, x.again(a, b), y.again(a, b));
    due("likely" + of, x.likely(a, b), y.likely(a, b));
    due("mean" + of, x.mean(a, b), y.mean(a, b));
    due("on()", x.on(), y.on());
  }

  private static void ofThree(int a, int b, int c) {
    anewIfUsed();
    String of = "(" + a + ", " + b + ", " + c + ")";
    due("with" + of, x.with(a, b, c), y.with(a, b, c));
    due("lots" + of, x.lots(a, b, c), y.lots(a, b, c));
  }
}
