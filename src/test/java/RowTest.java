/** Promises 19 to 22: whatIs, row, judge, clear. */
public final class RowTest {
  private static final Check CHECK = new Check("RowTest");

  public static void main(String[] args) {
    row();
    whatIs();
    judge();
    CHECK.finish();
  }

  private static void row() {
    ClosuresThatBounce x = new ClosuresThatBounce();
    CHECK.due("row(-1)", x.row(-1), -4);
    CHECK.due("row(100)", x.row(100), -6);
    for (int i = 1; i <= 16; i++) {
      CHECK.due("row", x.row(i % 2 == 0 ? 0 : 99), i);
    }
    CHECK.due("the 17th", x.row(0), -6);
    CHECK.due("the 17th, below", x.row(-1), -4);
    CHECK.due("count(6)", x.count(6), 16);
    CHECK.due("count(14)", x.count(14), 2);
    CHECK.due("count(16)", x.count(16), 2);
    CHECK.due("clear()", x.clear(), 16);
    CHECK.due("clear()", x.clear(), 0);
    CHECK.due("count(6)", x.count(6), 0);
    CHECK.due("row(5)", x.row(5), 1);
  }

  private static void whatIs() {
    ClosuresThatBounce x = Check.of("?-a3?-a4?-a561P1Fb1");
    // 3: a FUNCTION; 4: a RECORD; 5: 1; else 6. ? takes the third, if it is 0.
    CHECK.due("none in the ROW", x.whatIs(0), 65535);
    x.row(1);
    CHECK.due("one", x.whatIs(0), 1 << 3);
    x.row(2);
    x.row(0);
    CHECK.due("three", x.whatIs(0), 1 << 3);
    CHECK.due("it stays", x.count(6), 3);
    x.clear();
    x.row(2);
    CHECK.due("a RECORD", x.whatIs(0), 1 << 4);
    x.clear();
    x.row(0);
    x.row(0);
    CHECK.due("NUMBERS", x.whatIs(0), 65535 - (1 << 2) - (1 << 3) - (1 << 4));
    CHECK.due("by another", x.whatIs(1), 65535);
    x.row(4);
    CHECK.due("no such end", x.whatIs(0), 0);
    x.clear();
    for (int i = 0; i < 16; i++) {
      x.row(i == 15 ? 3 : 0);
    }
    Check.tell(x, "?-a+9+960X0");
    CHECK.due("by one that is never asked", x.whatIs(1), 0);
    CHECK.due("as far as 24", x.whatIs(0), 1 << 9);
    CHECK.due("whatIs(6)", x.whatIs(6), -1);
    CHECK.due("whatIs(-1)", x.whatIs(-1), -1);
    CHECK.due("count(11)", x.count(11), 2);
    CHECK.due("count(6)", x.count(6), 16);
    Check.tell(x, "?-a+9+9+930X0");
    CHECK.due("as far as 30", x.whatIs(0), 1 << 15);
    x.clear();
    x.row(3);
    Check.tell(x, "?aX01");
    CHECK.due("all but 0", x.whatIs(0), 65534);
    Check.tell(x, "?a1X0");
    CHECK.due("0 alone", x.whatIs(0), 1);
  }

  private static void judge() {
    ClosuresThatBounce x = Check.of("*aa");
    CHECK.due("none", x.judge(), -9);
    x.row(0);
    x.row(1);
    x.row(4);
    x.row(9);
    CHECK.due("all so", x.judge(), -9);
    CHECK.due("the ROW has none then", x.count(6), 0);
    x.row(0);
    x.row(1);
    x.row(5);
    x.row(10);
    CHECK.due("the first that is not so", x.judge(), 2);
    CHECK.due("the ROW has none then", x.count(6), 0);
    Check.tell(x, "?aP10");
    x.row(0);
    x.row(0);
    CHECK.due("it ends otherwise", x.judge(), 1);
    Check.tell(x, "?aX10");
    x.row(0);
    x.row(11);
    CHECK.due("it ends with a FAULT", x.judge(), 1);
    for (int what = 11; what <= 16; what++) {
      CHECK.due("count(" + what + ")", x.count(what), 0);
    }
  }
}
