/** Promises 24 to 26: image, on, count. */
public final class ImageTest {
  private static final Check CHECK = new Check("ImageTest");

  public static void main(String[] args) {
    image();
    imageWithoutRun();
    theWholeProgram();
    runs();
    others();
    CHECK.finish();
  }

  private static void counts(ClosuresThatBounce x, int... want) {
    for (int what = 0; what < want.length; what++) {
      CHECK.due("count(" + what + ")", x.count(what), want[what]);
    }
  }

  private static void image() {
    ClosuresThatBounce x = Check.of(",Sa+a1W+pP1Xb");
    CHECK.due("on()", x.on(), -3);
    CHECK.due("count(13)", x.count(13), 1);
    x.sets(1, 4);
    x.run();
    x.run();
    CHECK.due("image()", x.image(), 12);
    x.run();
    Check.tell(x, "?Sa9Sb8qQ1");
    x.run();
    x.letter('+');
    x.row(7);
    x.global(9);
    CHECK.due("on()", x.on(), 12);
    counts(x, 12, 1, 1, 1, 1, 2, 1, 1);
    CHECK.due("count(11)", x.count(11), 1);
    CHECK.due("global(0)", x.global(0), 2);
    CHECK.due("global(1)", x.global(1), 4);
    CHECK.due("code(0)", x.code(0), 7);
    CHECK.due("code(1)", x.code(1), 14);
    CHECK.due("ended(2)", x.ended(2), 12);
    CHECK.due("cache(0, 1)", x.cache(0, 1), 1);
    CHECK.due("cache(0, 2)", x.cache(0, 2), 1);
    x.run();
    CHECK.due("global(0)", x.global(0), 3);
    CHECK.due("cache(0, 2)", x.cache(0, 2), 2);
    CHECK.due("on() again", x.on(), 12);
    CHECK.due("global(0)", x.global(0), 2);
    CHECK.due("cache(0, 2)", x.cache(0, 2), 1);
    CHECK.due("count(5)", x.count(5), 2);
    Check.tell(x, "1");
    Check.tell(x, "5");
    CHECK.due("image()", x.image(), 1);
    Check.tell(x, "+12");
    CHECK.due("on()", x.on(), 1);
    CHECK.due("run()", x.run(), 0);
    CHECK.due("ended(1)", x.ended(1), 5);
  }

  private static void imageWithoutRun() {
    ClosuresThatBounce x = new ClosuresThatBounce();
    CHECK.due("image()", x.image(), 1);
    x.run();
    CHECK.due("on()", x.on(), 1);
    CHECK.due("ended(0)", x.ended(0), 1000000003);
    counts(x, 1, 0, 0, 0, 0, 0, 0, 0);
  }

  private static void theWholeProgram() {
    String letters = "Lf0,SfFb?b@f0+pP1qB23@f1";
    ClosuresThatBounce x = Check.of(letters);
    x.image();
    Check.tell(x, "WWWWW?0qqqqqqqq01");
    CHECK.due("on()", x.on(), 21);
    CHECK.ends(x, letters, 0, 4, 23, 1, 1, 0);
    CHECK.due("cache(0, 1)", x.cache(0, 1), 1);
    CHECK.due("cache(1, 1)", x.cache(1, 1), 4);
  }

  private static void runs() {
    ClosuresThatBounce x = Check.of("pP1");
    for (int i = 0; i < 99; i++) {
      CHECK.due("count(5)", x.count(5), i);
      x.run();
    }
    CHECK.due("count(5)", x.count(5), 99);
    x.run();
    CHECK.due("count(5)", x.count(5), 99);
    CHECK.due("count(3)", x.count(3), 99);
    CHECK.due("count(4)", x.count(4), 1);
  }

  private static void others() {
    ClosuresThatBounce x = new ClosuresThatBounce();
    int[] none = {-1, 8, 9, 10, 17, Integer.MIN_VALUE, Integer.MAX_VALUE};
    for (int what : none) {
      CHECK.due("count(" + what + ")", x.count(what), -9);
    }
    for (int what = 11; what <= 16; what++) {
      CHECK.due("count(" + what + ")", x.count(what), 0);
    }
  }
}
