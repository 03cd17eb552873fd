/** Objects that have been used in ways in which REFUSALS are looked at. */
final class States {
  private States() {
  }

  static ClosuresThatBounce fresh() {
    return new ClosuresThatBounce();
  }

  /** Everything is there: an IMAGE of another PROGRAM, a RUN with CAUSES, CACHES, a ROW, half of a new PROGRAM. */
  static ClosuresThatBounce used() {
    ClosuresThatBounce x = Check.of(",Sb+b1pP4");
    x.sets(5, -9);
    x.run();
    x.image();
    Check.tell(x, ",Sa+a1WW+p?aB12P3Xq?aQ3C12");
    x.run();
    x.run();
    x.sets(2, 7);
    x.row(3);
    x.row(3);
    x.letter('+');
    x.letter('1');
    x.global(6);
    return x;
  }

  /** There was a RUN, it ended with a NUMBER, and no IMAGE was taken. */
  static ClosuresThatBounce ended() {
    ClosuresThatBounce x = Check.of("+apC12");
    x.sets(0, 4);
    x.run();
    x.row(0);
    x.letter('-');
    return x;
  }

  /** No letter and no number of the ROW has room any more. */
  static ClosuresThatBounce full() {
    ClosuresThatBounce x = Check.of("a");
    x.run();
    for (int i = 0; i < 95; i++) {
      x.letter('W');
    }
    x.letter('0');
    for (int v = 0; v < 16; v++) {
      x.row(v);
    }
    return x;
  }
}
