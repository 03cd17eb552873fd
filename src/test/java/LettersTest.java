/** Promises 1, 2, 3: a new object, letter, program. */
public final class LettersTest {
  private static final Check CHECK = new Check("LettersTest");

  public static void main(String[] args) {
    aNewObject();
    letters();
    lettersThatAreRefused();
    everySign();
    faultsOfKindOne();
    faultsOfKindTwo();
    whatAFaultLeaves();
    whatAProgramBrings();
    CHECK.finish();
  }

  private static void aNewObject() {
    ClosuresThatBounce x = new ClosuresThatBounce();
    int[] due = {1, 0, 0, 0, 0, 0, 0, 0};
    for (int what = 0; what < due.length; what++) {
      CHECK.due("count(" + what + ")", x.count(what), due[what]);
    }
    for (int variable = 0; variable < 6; variable++) {
      CHECK.due("global(" + variable + ")", x.global(variable), 0);
    }
    for (int what = 11; what <= 16; what++) {
      CHECK.due("count(" + what + ")", x.count(what), 0);
    }
    CHECK.due("on()", x.on(), -3);
    CHECK.due("thinks(2)", x.thinks(2), 1);
    CHECK.due("ended(0)", x.ended(0), 1000000003);
    CHECK.ends(x, "0", 0, 0, 1, 0, 0, 0);
  }

  private static void letters() {
    ClosuresThatBounce x = new ClosuresThatBounce();
    for (int i = 1; i <= 96; i++) {
      CHECK.due("letter", x.letter(i % 2 == 0 ? 0 : 255), i);
    }
    CHECK.due("the 97th letter", x.letter('0'), -6);
    CHECK.due("count(7)", x.count(7), 96);
    CHECK.due("count(16)", x.count(16), 1);
    CHECK.due("program()", x.program(), -1000);
    CHECK.due("count(7)", x.count(7), 0);
  }

  private static void lettersThatAreRefused() {
    ClosuresThatBounce x = new ClosuresThatBounce();
    CHECK.due("letter(-1)", x.letter(-1), -4);
    CHECK.due("letter(least)", x.letter(Integer.MIN_VALUE), -4);
    CHECK.due("letter(256)", x.letter(256), -6);
    CHECK.due("letter(greatest)", x.letter(Integer.MAX_VALUE), -6);
    CHECK.due("count(7)", x.count(7), 0);
    CHECK.due("count(14)", x.count(14), 2);
    CHECK.due("count(16)", x.count(16), 2);
    for (int i = 0; i < 96; i++) {
      x.letter('0');
    }
    CHECK.due("letter(-1) without room", x.letter(-1), -4);
  }

  private static void everySign() {
    String[] programs = {"0", "9", "a", "f", "+12", "-12", "*12", "?123", ",12", "La12", "Sf1", "Fa1", "@12",
        "P1", "Q1", "B12", "C12", "p1", "q1", "X1", "W1", "Y1a2"};
    int[] sizes = {1, 1, 1, 1, 3, 3, 3, 4, 3, 3, 2, 2, 3, 2, 2, 3, 3, 2, 2, 2, 2, 3};
    for (int i = 0; i < programs.length; i++) {
      ClosuresThatBounce x = new ClosuresThatBounce();
      CHECK.due("program() of " + programs[i], Check.tell(x, programs[i]), sizes[i]);
      CHECK.due("count(0) of " + programs[i], x.count(0), sizes[i]);
    }
    for (int c = 0; c < 256; c++) {
      ClosuresThatBounce x = new ClosuresThatBounce();
      x.letter(c);
      boolean alone = c >= '0' && c <= '9' || c >= 'a' && c <= 'f';
      boolean begins = "+-*?,LSF@PQBCpqXWY".indexOf((char) c) >= 0;
      CHECK.due("program() of letter " + c, x.program(), alone ? 1 : begins ? -1001 : -1000);
    }
  }

  private static void faultsOfKindOne() {
    String[] programs = {"", "+", "+1", "00", "+123", "g", "+1g", "LA12", "L1", "Lg12", "La1", "S1", "Sa", "F", "F1",
        "Fg1", "Y1", "Y12", "Y1g2", "Y1a", "?12", "@1", "P", "B1", "p", "W", "X", "La11F", "Y+1aa"};
    int[] due = {-1000, -1001, -1002, -1001, -1003, -1000, -1002, -1001, -1001, -1001, -1003, -1001, -1002, -1001,
        -1001, -1001, -1002, -1002, -1002, -1003, -1003, -1002, -1001, -1002, -1001, -1001, -1001, -1004, -1005};
    for (int i = 0; i < programs.length; i++) {
      ClosuresThatBounce x = new ClosuresThatBounce();
      CHECK.due("program() of '" + programs[i] + "'", Check.tell(x, programs[i]), due[i]);
      CHECK.due("count(7)", x.count(7), 0);
    }
    CHECK.due("96 signs", Check.tell(new ClosuresThatBounce(), "?".repeat(96)), -1096);
    CHECK.due("a wrong letter far behind the 41st", Check.tell(new ClosuresThatBounce(), "W".repeat(60) + "g"), -1060);
    CHECK.due("something lacks behind the 41st", Check.tell(new ClosuresThatBounce(), "W".repeat(60)), -1060);
  }

  private static void faultsOfKindTwo() {
    CHECK.due("40", Check.tell(new ClosuresThatBounce(), "W".repeat(39) + "0"), 40);
    CHECK.due("41", Check.tell(new ClosuresThatBounce(), "W".repeat(40) + "0"), -2040);
    CHECK.due("41 with names", Check.tell(new ClosuresThatBounce(), "Sa".repeat(40) + "0"), -2080);
    CHECK.due("40 with names", Check.tell(new ClosuresThatBounce(), "Sa".repeat(39) + "0"), 40);
    CHECK.due("10 sites", Check.tell(new ClosuresThatBounce(), "pq".repeat(5) + "0"), 11);
    CHECK.due("11 sites", Check.tell(new ClosuresThatBounce(), "pq".repeat(5) + "q0"), -2010);
    CHECK.due("11 sites ahead of 41", Check.tell(new ClosuresThatBounce(), "W" + "p".repeat(11) + "W".repeat(40) + "0"), -2011);
    CHECK.due("41 ahead of 11 sites", Check.tell(new ClosuresThatBounce(), "W".repeat(35) + "p".repeat(11) + "0"), -2040);
    CHECK.due("the name between is none", Check.tell(new ClosuresThatBounce(), "Y0a" + "W".repeat(38) + "0"), -2041);
  }

  private static void whatAFaultLeaves() {
    ClosuresThatBounce x = Check.of("pP4");
    x.run();
    x.run();
    CHECK.due("program()", Check.tell(x, "+1"), -1002);
    int[] due = {3, 1, 1, 1, 1, 2, 0, 0};
    for (int what = 0; what < due.length; what++) {
      CHECK.due("count(" + what + ")", x.count(what), due[what]);
    }
    for (int what = 11; what <= 16; what++) {
      CHECK.due("count(" + what + ")", x.count(what), 0);
    }
    CHECK.due("ended(1)", x.ended(1), 4);
    CHECK.due("run()", x.run(), 0);
  }

  private static void whatAProgramBrings() {
    ClosuresThatBounce x = Check.of("SapP4");
    x.sets(1, 8);
    x.row(5);
    x.run();
    x.run();
    CHECK.due("cache(0, 2)", x.cache(0, 2), 1);
    CHECK.due("program()", Check.tell(x, "pq1"), 3);
    int[] due = {3, 2, 0, 0, 0, 0, 1, 0};
    for (int what = 0; what < due.length; what++) {
      CHECK.due("count(" + what + ")", x.count(what), due[what]);
    }
    CHECK.due("global(0)", x.global(0), 4);
    CHECK.due("global(1)", x.global(1), 8);
    CHECK.due("cache(0, 0)", x.cache(0, 0), 0);
    CHECK.due("cache(0, 1)", x.cache(0, 1), 0);
    CHECK.due("cache(0, 2)", x.cache(0, 2), 0);
    CHECK.due("cache(0, 3)", x.cache(0, 3), 0);
    CHECK.due("ended(0)", x.ended(0), 1000000003);
    CHECK.due("code(0)", x.code(0), -3);
  }
}
