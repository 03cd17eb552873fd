/**
 * A machine of closures: programs in letters, their runs, what the runs' caches have seen, and what
 * would be if a run were made with other numbers.
 *
 * <p>The words in capitals are those of the document. All rows are made in the constructor and used
 * again: no call makes an object.
 */
public final class ClosuresThatBounce {
  private static final int VARIABLES = 6;
  private static final int MOST_LETTERS = 96;
  private static final int GREATEST_LETTER = 255;
  private static final int MOST_EXPRESSIONS = 40;
  private static final int MOST_SITES = 10;
  private static final int MOST_STEPS = 400;
  private static final int MOST_DEPTH = 12;
  private static final int GREATEST_NUMBER = 9999;
  private static final int MOST_IN_ROW = 16;
  private static final int GREATEST_IN_ROW = 99;
  private static final int MOST_RUNS_TOLD = 99;
  private static final int MOST_RUNS_IN_MIND = 20;
  private static final int FARTHEST_TRY = 20;
  private static final int LEAST_ODDS = 2;
  private static final int GREATEST_ODDS = 20;
  private static final int RUNS_OF_MEAN = 10;
  private static final int NUMBERS_ASKED = 16;
  private static final int DRAWS_BELOW = 10;
  private static final int ALL_BUT_THE_SIGNS_BIT = 0x7fffffff;

  private static final int NOBODY = -1;
  private static final int OTHER = -2;
  private static final int STATE = -3;
  private static final int BELOW = -4;
  private static final int ROOM = -6;
  private static final int KINDS_OF_REFUSALS = 6;
  private static final int REFUSALS_TOLD_ABOVE = 10;
  private static final int REFUSED_NUMBER = 1000000000;
  private static final long REFUSED_LONG = 4000000000000000000L;
  private static final int NO_NUMBER = 999999999;
  private static final int NOTHING_SUCH = -9;

  private static final int ENDED_NUMBER = 0;
  private static final int ENDED_FUNCTION = 1;
  private static final int ENDED_RECORD = 2;
  private static final int ENDED_FAULT = 3;

  private static final int CODE_NO_NUMBER = 1;
  private static final int CODE_NO_FUNCTION = 2;
  private static final int CODE_NO_FIELD = 3;
  private static final int CODE_RANGE = 4;
  private static final int CODE_DEPTH = 5;
  private static final int CODE_STEPS = 6;
  private static final int CODE_WRAPPED = 7;
  private static final int CODE_TOLD = 10;

  private final Situation now = new Situation();
  private final Situation kept = new Situation();
  private final Machine machine = new Machine();
  private final Letters letters = new Letters();
  private final int[] rowNumbers = new int[MOST_IN_ROW];
  private final int[] refusals = new int[KINDS_OF_REFUSALS + 1];
  private final int[] endsOfTries = new int[NUMBERS_ASKED + MOST_IN_ROW];
  private int rowLength = 0;
  private boolean imageTaken = false;

  public ClosuresThatBounce() {
  }

  public int letter(int c) {
    if (c < 0) {
      return refuse(BELOW);
    }
    if (c > GREATEST_LETTER || letters.isFull()) {
      return refuse(ROOM);
    }
    return letters.add(c);
  }

  public int program() {
    int fault = letters.findFault();
    if (fault == 0) {
      letters.writeInto(now.program);
      now.startAnew();
    }
    letters.forget();
    return fault == 0 ? now.program.size : fault;
  }

  public int global(int variable) {
    if (!isVariable(variable)) {
      return refuseNumber(NOBODY);
    }
    return at(now.globals, variable);
  }

  public int sets(int variable, int n) {
    int refusal = refusalOfGlobal(variable, n);
    if (refusal != 0) {
      return refuseNumber(refusal);
    }
    int before = at(now.globals, variable);
    put(now.globals, variable, n);
    return before;
  }

  public int run() {
    now.keepRun(machine, thinkOf());
    return now.latest.how;
  }

  public int ended(int what) {
    if (!isOfEnding(what)) {
      return refuseNumber(OTHER);
    }
    if (!now.hasRun) {
      return refuseNumber(STATE);
    }
    return now.latest.tell(what);
  }

  public int code(int i) {
    if (!now.hasRun || now.latest.how != ENDED_FAULT) {
      return refuse(STATE);
    }
    if (i < 0 || i > now.latest.causes) {
      return refuse(NOBODY);
    }
    return now.latest.codeAt(i);
  }

  public int cache(int site, int what) {
    if (site < 0 || site >= now.program.siteCount) {
      return refuse(NOBODY);
    }
    if (what < 0 || what > 3) {
      return refuse(OTHER);
    }
    return now.caches.tell(site, what);
  }

  public int thinks(int what) {
    if (!isOfEnding(what)) {
      return refuseNumber(OTHER);
    }
    return thinkOf().tell(what);
  }

  public int with(int variable, int n, int what) {
    int refusal = refusalOfGlobal(variable, n);
    if (refusal == 0 && !isOfEnding(what)) {
      refusal = OTHER;
    }
    if (refusal != 0) {
      return refuseNumber(refusal);
    }
    return thinkWith(variable, n).tell(what);
  }

  public int solve(int variable, int n) {
    int refusal = refusalOfGlobal(variable, n);
    if (refusal != 0) {
      return refuseNumber(refusal);
    }
    for (int tried = -FARTHEST_TRY; tried <= FARTHEST_TRY; tried++) {
      if (thinkWith(variable, tried).isNumber(n)) {
        return tried;
      }
    }
    return NO_NUMBER;
  }

  public int fewest(int variable, int what) {
    if (!isVariable(variable)) {
      return refuseNumber(NOBODY);
    }
    if (what < 0 || what > 1) {
      return refuseNumber(OTHER);
    }
    int best = NO_NUMBER;
    int bestSteps = NO_NUMBER;
    for (int tried = -FARTHEST_TRY; tried <= FARTHEST_TRY; tried++) {
      Ending ending = thinkWith(variable, tried);
      if (ending.how != ENDED_FAULT && ending.steps < bestSteps) {
        best = tried;
        bestSteps = ending.steps;
      }
    }
    return what == 0 ? best : bestSteps;
  }

  public int pure() {
    Ending ending = thinkOf();
    int how = ending.how;
    int told = ending.told;
    machine.perform();
    boolean alike = ending.how == how && ending.told == told;
    return alike && sameRows(machine.globals, now.globals) ? 1 : 0;
  }

  public int changes() {
    thinkOf();
    int changed = 0;
    for (int site = 0; site < MOST_SITES; site++) {
      if (machine.caches.stateOf(site) != now.caches.stateOf(site)) {
        changed++;
      }
    }
    return changed;
  }

  public int again(int n, int what) {
    int refusal = refusalOfMany(n, 1, MOST_RUNS_IN_MIND, what);
    if (refusal != 0) {
      return refuseNumber(refusal);
    }
    int faults = 0;
    machine.takeUp(now);
    for (int i = 0; i < n; i++) {
      if (machine.perform().how == ENDED_FAULT) {
        faults++;
      }
    }
    return what == 0 ? faults : at(machine.globals, 0);
  }

  public long likely(int t, int part) {
    int refusal = refusalOfMany(t, LEAST_ODDS, GREATEST_ODDS, part);
    if (refusal != 0) {
      return refuseLong(refusal);
    }
    long above = 0;
    for (int ones = 0; ones < 8; ones++) {
      machine.takeUp(now);
      long ways = 1;
      for (int variable = 0; variable < 3; variable++) {
        int bit = (ones >> variable) & 1;
        put(machine.globals, variable, bit);
        ways *= bit == 1 ? 1 : t - 1;
      }
      if (machine.perform().how != ENDED_FAULT) {
        above += ways;
      }
    }
    return partOfFraction(above, (long) t * t * t, part);
  }

  public long mean(int variable, int part) {
    if (!isVariable(variable)) {
      return refuseLong(NOBODY);
    }
    if (part < 0 || part > 1) {
      return refuseLong(OTHER);
    }
    long together = 0;
    for (int n = 0; n < RUNS_OF_MEAN; n++) {
      together += thinkWith(variable, n).steps;
    }
    return partOfFraction(together, RUNS_OF_MEAN, part);
  }

  public int whatIs(int variable) {
    if (!isVariable(variable)) {
      return refuse(NOBODY);
    }
    int tries = rowLength == 0 ? 0 : NUMBERS_ASKED + rowLength - 1;
    for (int n = 0; n < tries; n++) {
      put(endsOfTries, n, thinkWith(variable, n).how);
    }
    int bits = 0;
    for (int first = 0; first < NUMBERS_ASKED; first++) {
      if (rowTellsEndsFrom(first)) {
        bits |= 1 << first;
      }
    }
    return bits;
  }

  public int row(int v) {
    if (v < 0) {
      return refuse(BELOW);
    }
    if (v > GREATEST_IN_ROW || rowLength >= MOST_IN_ROW) {
      return refuse(ROOM);
    }
    put(rowNumbers, rowLength, v);
    rowLength++;
    return rowLength;
  }

  public int judge() {
    int judged = NOTHING_SUCH;
    for (int n = 0; n < rowLength && judged == NOTHING_SUCH; n++) {
      if (!thinkWith(0, n).isNumber(at(rowNumbers, n))) {
        judged = n;
      }
    }
    rowLength = 0;
    return judged;
  }

  public int clear() {
    int before = rowLength;
    rowLength = 0;
    return before;
  }

  public int lots(int n, int z, int what) {
    int refusal = refusalOfMany(n, 1, MOST_RUNS_IN_MIND, what);
    if (refusal != 0) {
      return refuseNumber(refusal);
    }
    int seed = z;
    int together = 0;
    int faults = 0;
    for (int i = 0; i < n; i++) {
      machine.takeUp(now);
      for (int variable = 0; variable < VARIABLES; variable++) {
        seed = nextSeed(seed);
        put(machine.globals, variable, drawOf(seed));
      }
      Ending ending = machine.perform();
      together += ending.how == ENDED_NUMBER ? ending.told : 0;
      faults += ending.how == ENDED_FAULT ? 1 : 0;
    }
    return what == 0 ? together : faults;
  }

  public int image() {
    kept.copyFrom(now);
    imageTaken = true;
    return kept.program.size;
  }

  public int on() {
    if (!imageTaken) {
      return refuse(STATE);
    }
    now.copyFrom(kept);
    return now.program.size;
  }

  public int count(int what) {
    switch (what) {
      case 0: return now.program.size;
      case 1: return now.program.siteCount;
      case 2: return now.hasRun ? 1 : 0;
      case 3: return now.caches.allHits();
      case 4: return now.caches.allMisses();
      case 5: return now.runs;
      case 6: return rowLength;
      case 7: return letters.length;
      default: break;
    }
    if (what <= REFUSALS_TOLD_ABOVE || what > REFUSALS_TOLD_ABOVE + KINDS_OF_REFUSALS) {
      return NOTHING_SUCH;
    }
    return at(refusals, what - REFUSALS_TOLD_ABOVE);
  }

  private Ending thinkOf() {
    machine.takeUp(now);
    return machine.perform();
  }

  private Ending thinkWith(int variable, int n) {
    machine.takeUp(now);
    put(machine.globals, variable, n);
    return machine.perform();
  }

  private boolean rowTellsEndsFrom(int first) {
    for (int i = 0; i < rowLength; i++) {
      if (at(rowNumbers, i) != at(endsOfTries, first + i)) {
        return false;
      }
    }
    return true;
  }

  private int refuse(int number) {
    put(refusals, -number, at(refusals, -number) + 1);
    return number;
  }

  private int refuseNumber(int number) {
    return REFUSED_NUMBER - refuse(number);
  }

  private long refuseLong(int number) {
    return REFUSED_LONG - refuse(number);
  }

  private static int refusalOfGlobal(int variable, int n) {
    if (!isVariable(variable)) {
      return NOBODY;
    }
    if (n < -GREATEST_NUMBER) {
      return BELOW;
    }
    return n > GREATEST_NUMBER ? ROOM : 0;
  }

  private static int refusalOfMany(int n, int least, int greatest, int what) {
    if (n < least) {
      return BELOW;
    }
    if (n > greatest) {
      return ROOM;
    }
    return what < 0 || what > 1 ? OTHER : 0;
  }

  private static boolean isVariable(int variable) {
    return variable >= 0 && variable < VARIABLES;
  }

  private static boolean isOfEnding(int what) {
    return what >= 0 && what <= 5;
  }

  private static int nextSeed(int seed) {
    return seed * 1664525 + 1013904223;
  }

  private static int drawOf(int seed) {
    return (seed & ALL_BUT_THE_SIGNS_BIT) / 256 % DRAWS_BELOW;
  }

  private static long partOfFraction(long above, long below, int part) {
    long shared = greatestDivisor(above, below);
    if (shared == 0) {
      return 0;
    }
    return part == 0 ? above / shared : below / shared;
  }

  private static long greatestDivisor(long one, long two) {
    long greater = one;
    long lesser = two;
    // Two longs share their greatest divisor after fewer than a hundred divisions.
    for (int i = 0; i < 100 && lesser != 0; i++) {
      long rest = greater % lesser;
      greater = lesser;
      lesser = rest;
    }
    return greater;
  }

  private static boolean sameRows(int[] one, int[] two) {
    for (int i = 0; i < one.length; i++) {
      if (one[i] != at(two, i)) {
        return false;
      }
    }
    return one.length == two.length;
  }

  private static int at(int[] row, int i) {
    return i >= 0 && i < row.length ? row[i] : 0;
  }

  private static void put(int[] row, int i, int n) {
    if (i >= 0 && i < row.length) {
      row[i] = n;
    }
  }

  private static void copyRow(int[] from, int[] to) {
    System.arraycopy(from, 0, to, 0, Math.min(from.length, to.length));
  }

  /** What THE IMAGE holds, too: THE PROGRAM, GLOBALS, CACHES, THE LATEST RUN. */
  private static final class Situation {
    final Program program = new Program();
    final int[] globals = new int[VARIABLES];
    final Caches caches = new Caches();
    final Ending latest = new Ending();
    boolean hasRun = false;
    int runs = 0;

    /** A new PROGRAM keeps the GLOBALS, and nothing else of what was. */
    void startAnew() {
      caches.forget();
      hasRun = false;
      runs = 0;
    }

    void keepRun(Machine machine, Ending ending) {
      copyRow(machine.globals, globals);
      caches.copyFrom(machine.caches);
      latest.copyFrom(ending);
      hasRun = true;
      runs = Math.min(runs + 1, MOST_RUNS_TOLD);
    }

    void copyFrom(Situation other) {
      program.copyFrom(other.program);
      copyRow(other.globals, globals);
      caches.copyFrom(other.caches);
      latest.copyFrom(other.latest);
      hasRun = other.hasRun;
      runs = other.runs;
    }
  }

  /** How a RUN ended. */
  private static final class Ending {
    int how = ENDED_NUMBER;
    int told = 0;
    int steps = 0;
    int greatestDepth = 0;
    int bounces = 0;
    int causes = 0;
    int lastCode = 0;

    int tell(int what) {
      switch (what) {
        case 0: return how;
        case 1: return told;
        case 2: return steps;
        case 3: return greatestDepth;
        case 4: return bounces;
        default: return causes;
      }
    }

    /** A FAULT with a CAUSE is always one that "W" made: only the last CAUSE has a CODE of its own. */
    int codeAt(int i) {
      return i < causes ? CODE_WRAPPED : lastCode;
    }

    boolean isNumber(int n) {
      return how == ENDED_NUMBER && told == n;
    }

    void copyFrom(Ending other) {
      how = other.how;
      told = other.told;
      steps = other.steps;
      greatestDepth = other.greatestDepth;
      bounces = other.bounces;
      causes = other.causes;
      lastCode = other.lastCode;
    }
  }

  /** The CACHES of all SITES. */
  private static final class Caches {
    private final int[] shapes = new int[MOST_SITES];
    private final int[] hits = new int[MOST_SITES];
    private final int[] misses = new int[MOST_SITES];

    void see(int site, int shape) {
      int seen = at(shapes, site);
      int bit = 1 << shape;
      if ((seen & bit) != 0 && Integer.bitCount(seen) <= 2) {
        put(hits, site, at(hits, site) + 1);
      } else {
        put(misses, site, at(misses, site) + 1);
        put(shapes, site, seen | bit);
      }
    }

    int stateOf(int site) {
      return Math.min(Integer.bitCount(at(shapes, site)), 3);
    }

    int tell(int site, int what) {
      switch (what) {
        case 0: return stateOf(site);
        case 1: return at(shapes, site);
        case 2: return at(hits, site);
        default: return at(misses, site);
      }
    }

    int allHits() {
      return sumOf(hits);
    }

    int allMisses() {
      return sumOf(misses);
    }

    private static int sumOf(int[] row) {
      int sum = 0;
      for (int n : row) {
        sum += n;
      }
      return sum;
    }

    void forget() {
      for (int site = 0; site < MOST_SITES; site++) {
        put(shapes, site, 0);
        put(hits, site, 0);
        put(misses, site, 0);
      }
    }

    void copyFrom(Caches other) {
      copyRow(other.shapes, shapes);
      copyRow(other.hits, hits);
      copyRow(other.misses, misses);
    }
  }

  /**
   * The EXPRESSIONS of a PROGRAM, numbered as their first letters stand: so the first EXPRESSION
   * within another has the number behind it.
   */
  private static final class Program {
    private final int[] signs = new int[MOST_EXPRESSIONS];
    private final int[] variables = new int[MOST_EXPRESSIONS];
    private final int[] seconds = new int[MOST_EXPRESSIONS];
    private final int[] thirds = new int[MOST_EXPRESSIONS];
    private final int[] sites = new int[MOST_EXPRESSIONS];
    private final int[] ends = new int[MOST_EXPRESSIONS];
    int size = 0;
    int siteCount = 0;

    Program() {
      signs[0] = '0';
      size = 1;
    }

    int signOf(int expression) {
      return at(signs, expression);
    }

    int variableOf(int expression) {
      return at(variables, expression);
    }

    int firstOf(int expression) {
      return expression + 1;
    }

    int secondOf(int expression) {
      return at(seconds, expression);
    }

    int thirdOf(int expression) {
      return at(thirds, expression);
    }

    int siteOf(int expression) {
      return at(sites, expression);
    }

    boolean isAtEnd(int expression) {
      return at(ends, expression) == 1;
    }

    void empty() {
      size = 0;
      siteCount = 0;
    }

    /** An EXPRESSION more, which is a part of its owner, or the PROGRAM, if the owner is below 0. */
    void add(int letter, int owner, int slot) {
      int expression = size;
      put(signs, expression, letter);
      put(variables, expression, letter - 'a');
      put(ends, expression, comesToEnd(owner, slot) ? 1 : 0);
      if (Letters.isSite(letter)) {
        put(sites, expression, siteCount);
        siteCount++;
      }
      if (slot == Letters.SECOND) {
        put(seconds, owner, expression);
      }
      if (slot == Letters.THIRD) {
        put(thirds, owner, expression);
      }
      size++;
    }

    void nameVariable(int owner, int letter) {
      put(variables, owner, letter - 'a');
    }

    private boolean comesToEnd(int owner, int slot) {
      if (owner < 0) {
        return false;
      }
      switch (signOf(owner)) {
        case 'F': return true;
        case '?': return slot != Letters.FIRST && isAtEnd(owner);
        case ',':
        case 'L':
        case 'Y': return slot == Letters.SECOND && isAtEnd(owner);
        default: return false;
      }
    }

    void copyFrom(Program other) {
      copyRow(other.signs, signs);
      copyRow(other.variables, variables);
      copyRow(other.seconds, seconds);
      copyRow(other.thirds, thirds);
      copyRow(other.sites, sites);
      copyRow(other.ends, ends);
      size = other.size;
      siteCount = other.siteCount;
    }
  }

  /** The letters that came, and how they stand for EXPRESSIONS. */
  private static final class Letters {
    static final int FIRST = '1';
    static final int SECOND = '2';
    static final int THIRD = '3';
    static final int NAME = 'v';
    private static final int KIND_ONE = -1000;
    private static final int KIND_TWO = -2000;

    private final int[] told = new int[MOST_LETTERS];
    private final int[] owners = new int[MOST_LETTERS];
    private final int[] slots = new int[MOST_LETTERS];
    // What is still to come, the next of it on top: a letter takes one away and brings at most three.
    private final int[] comingOwners = new int[2 * MOST_LETTERS + 1];
    private final int[] comingSlots = new int[2 * MOST_LETTERS + 1];
    private int coming = 0;
    private int expressions = 0;
    int length = 0;

    boolean isFull() {
      return length >= MOST_LETTERS;
    }

    int add(int letter) {
      put(told, length, letter);
      length++;
      return length;
    }

    void forget() {
      length = 0;
    }

    /** The FAULT of the letters, or 0. */
    int findFault() {
      coming = 0;
      expressions = 0;
      await(-1, FIRST);
      for (int place = 0; place < length; place++) {
        if (!fits(place)) {
          return KIND_ONE - place;
        }
      }
      if (coming > 0) {
        return KIND_ONE - length;
      }
      int beyond = placeBeyondLimits();
      return beyond < 0 ? 0 : KIND_TWO - beyond;
    }

    /** Only behind findFault(), when it has found none. */
    void writeInto(Program program) {
      program.empty();
      for (int place = 0; place < length; place++) {
        int letter = at(told, place);
        int owner = at(owners, place);
        int slot = at(slots, place);
        if (slot == NAME) {
          program.nameVariable(owner, letter);
        } else {
          program.add(letter, owner, slot);
        }
      }
    }

    private boolean fits(int place) {
      if (coming <= 0) {
        return false;
      }
      coming--;
      int letter = at(told, place);
      int slot = at(comingSlots, coming);
      put(owners, place, at(comingOwners, coming));
      put(slots, place, slot);
      if (slot == NAME) {
        return isName(letter);
      }
      if (!isSign(letter)) {
        return false;
      }
      String parts = partsOf(letter);
      for (int i = parts.length() - 1; i >= 0; i--) {
        await(expressions, parts.charAt(i));
      }
      expressions++;
      return true;
    }

    private void await(int owner, int slot) {
      put(comingOwners, coming, owner);
      put(comingSlots, coming, slot);
      coming++;
    }

    private int placeBeyondLimits() {
      int seen = 0;
      int seenSites = 0;
      for (int place = 0; place < length; place++) {
        if (at(slots, place) == NAME) {
          continue;
        }
        seen++;
        seenSites += isSite(at(told, place)) ? 1 : 0;
        if (seen > MOST_EXPRESSIONS || seenSites > MOST_SITES) {
          return place;
        }
      }
      return -1;
    }

    static boolean isName(int letter) {
      return letter >= 'a' && letter <= 'f';
    }

    static boolean isDigit(int letter) {
      return letter >= '0' && letter <= '9';
    }

    static boolean isSite(int letter) {
      return letter == 'p' || letter == 'q';
    }

    private static boolean isSign(int letter) {
      return isDigit(letter) || isName(letter) || !partsOf(letter).isEmpty();
    }

    private static String partsOf(int letter) {
      switch (letter) {
        case '+':
        case '-':
        case '*':
        case ',':
        case '@':
        case 'B':
        case 'C': return "12";
        case '?': return "123";
        case 'L': return "v12";
        case 'S':
        case 'F': return "v1";
        case 'P':
        case 'Q':
        case 'p':
        case 'q':
        case 'X':
        case 'W': return "1";
        case 'Y': return "1v2";
        default: return "";
      }
    }
  }

  /** The CELLS of a RUN; a FRAME is its innermost CELL, each CELL knows the next one outwards. */
  private static final class Cells {
    static final int NONE = -1;
    private final int[] variables = new int[MOST_STEPS];
    private final int[] values = new int[MOST_STEPS];
    private final int[] outer = new int[MOST_STEPS];
    private int made = 0;

    void forget() {
      made = 0;
    }

    /** A STEP makes at most one CELL, so there is always room. */
    int add(int variable, int value, int frame) {
      put(variables, made, variable);
      put(values, made, value);
      put(outer, made, frame);
      made++;
      return made - 1;
    }

    int innermost(int variable, int frame) {
      int cell = frame;
      for (int i = 0; i < MOST_STEPS && cell != NONE; i++) {
        if (at(variables, cell) == variable) {
          return cell;
        }
        cell = at(outer, cell);
      }
      return NONE;
    }

    int valueIn(int cell) {
      return at(values, cell);
    }

    void change(int cell, int value) {
      put(values, cell, value);
    }
  }

  /**
   * The FUNCTIONS and RECORDS of a RUN. A VALUE is an int: a NUMBER is itself, a FUNCTION or RECORD
   * is its place here above all NUMBERS.
   */
  private static final class Things {
    static final int SHAPE_P = 0;
    static final int SHAPE_Q = 1;
    static final int SHAPE_PQ = 2;
    static final int SHAPE_QP = 3;
    static final int FUNCTION = 4;
    private static final int NUMBER = 5;
    private static final int ABOVE_NUMBERS = GREATEST_NUMBER + 1;

    private final int[] kinds = new int[MOST_STEPS];
    private final int[] ones = new int[MOST_STEPS];
    private final int[] twos = new int[MOST_STEPS];
    private int made = 0;

    void forget() {
      made = 0;
    }

    /**
     * A RECORD of a SHAPE has its p and its q, a FUNCTION its EXPRESSION and its FRAME. A STEP makes
     * at most one of them, so there is always room.
     */
    int add(int kind, int one, int two) {
      put(kinds, made, kind);
      put(ones, made, one);
      put(twos, made, two);
      made++;
      return ABOVE_NUMBERS + made - 1;
    }

    static boolean isNumber(int value) {
      return value < ABOVE_NUMBERS;
    }

    boolean isFunction(int value) {
      return kindOf(value) == FUNCTION;
    }

    boolean hasField(int value, int sign) {
      int kind = kindOf(value);
      return kind <= SHAPE_QP && kind != (sign == 'p' ? SHAPE_Q : SHAPE_P);
    }

    /** A RECORD's is its SHAPE. */
    int kindOf(int value) {
      int place = value - ABOVE_NUMBERS;
      return place >= 0 && place < kinds.length ? kinds[place] : NUMBER;
    }

    int fieldOf(int record, int sign) {
      return at(sign == 'p' ? ones : twos, record - ABOVE_NUMBERS);
    }

    int expressionOf(int function) {
      return at(ones, function - ABOVE_NUMBERS);
    }

    int frameOf(int function) {
      return at(twos, function - ABOVE_NUMBERS);
    }
  }

  /** The EXPRESSIONS that wait for a VALUE of a part of theirs, the innermost on top. */
  private static final class Waiting {
    private final int[] expressions = new int[MOST_STEPS];
    private final int[] frames = new int[MOST_STEPS];
    private final int[] stages = new int[MOST_STEPS];
    private final int[] firsts = new int[MOST_STEPS];
    private int height = 0;

    void forget() {
      height = 0;
    }

    boolean isEmpty() {
      return height <= 0;
    }

    /** Each one that waits has had a STEP of its own, so there is always room. */
    void push(int expression, int frame, int stage, int first) {
      put(expressions, height, expression);
      put(frames, height, frame);
      put(stages, height, stage);
      put(firsts, height, first);
      height++;
    }

    /** What was on top can still be read, till the next push. */
    void pop() {
      height--;
    }

    int expression() {
      return at(expressions, height);
    }

    int frame() {
      return at(frames, height);
    }

    int stage() {
      return at(stages, height);
    }

    int first() {
      return at(firsts, height);
    }
  }

  /**
   * Makes RUNS of a PROGRAM with GLOBALS and CACHES of its own. What waits is held in rows and not
   * in Java's own calls: twelve CALLS of forty EXPRESSIONS each would go too deep for those.
   */
  private static final class Machine {
    private static final int BEGINS = 0;
    private static final int HAS_VALUE = 1;
    private static final int HAS_FAULT = 2;
    private static final int STOPPED = 3;
    private static final int MAKES_FIRST = 0;
    private static final int MAKES_SECOND = 1;
    private static final int CALLS = 2;
    private static final int MOST_TURNS = 1000000;

    final int[] globals = new int[VARIABLES];
    final Caches caches = new Caches();
    private final Ending ending = new Ending();
    private final Cells cells = new Cells();
    private final Things things = new Things();
    private final Waiting waiting = new Waiting();
    private Program program = new Program();
    private int mode = STOPPED;
    private int expression = 0;
    private int frame = Cells.NONE;
    private int value = 0;
    private int depth = 0;
    private boolean failed = false;

    void takeUp(Situation situation) {
      program = situation.program;
      copyRow(situation.globals, globals);
      caches.copyFrom(situation.caches);
    }

    /** A RUN; what it answers holds till the next one. */
    Ending perform() {
      start();
      for (int turn = 0; turn < MOST_TURNS && mode != STOPPED; turn++) {
        if (mode == BEGINS) {
          beginExpression();
        } else if (mode == HAS_VALUE) {
          useValue();
        } else {
          passFaultOn();
        }
      }
      tellEnding();
      return ending;
    }

    private void start() {
      cells.forget();
      things.forget();
      waiting.forget();
      forgetFault();
      depth = 0;
      ending.steps = 0;
      ending.greatestDepth = 0;
      ending.bounces = 0;
      begin(0, Cells.NONE);
    }

    private void tellEnding() {
      if (failed) {
        ending.how = ENDED_FAULT;
        ending.told = ending.codeAt(0);
      } else if (Things.isNumber(value)) {
        ending.how = ENDED_NUMBER;
        ending.told = value;
      } else if (things.isFunction(value)) {
        ending.how = ENDED_FUNCTION;
        ending.told = program.variableOf(things.expressionOf(value));
      } else {
        ending.how = ENDED_RECORD;
        ending.told = things.kindOf(value);
      }
    }

    private void begin(int next, int itsFrame) {
      mode = BEGINS;
      expression = next;
      frame = itsFrame;
    }

    private void give(int made) {
      mode = HAS_VALUE;
      value = made;
    }

    private void fail(int itsCode) {
      mode = HAS_FAULT;
      failed = true;
      ending.causes = 0;
      ending.lastCode = itsCode;
    }

    private void beginExpression() {
      if (ending.steps >= MOST_STEPS) {
        fail(CODE_STEPS);
        return;
      }
      ending.steps++;
      int sign = program.signOf(expression);
      if (Letters.isDigit(sign)) {
        give(sign - '0');
      } else if (Letters.isName(sign)) {
        give(valueOfVariable(program.variableOf(expression), frame));
      } else if (sign == 'F') {
        give(things.add(Things.FUNCTION, expression, frame));
      } else {
        waiting.push(expression, frame, MAKES_FIRST, 0);
        begin(program.firstOf(expression), frame);
      }
    }

    private void useValue() {
      if (waiting.isEmpty()) {
        mode = STOPPED;
        return;
      }
      waiting.pop();
      int user = waiting.expression();
      int home = waiting.frame();
      int sign = program.signOf(user);
      switch (sign) {
        case '+':
        case '-':
        case '*':
        case 'B':
        case 'C': useOneOfTwo(user, home, sign); break;
        case '@':
          if (waiting.stage() == MAKES_SECOND) {
            call(user, home, waiting.first());
          } else {
            useForCall(user, home);
          }
          break;
        case '?': choose(user, home); break;
        case ',': begin(program.secondOf(user), home); break;
        case 'L': beginSecondWithCell(user, home, value); break;
        case 'S': store(program.variableOf(user), home); break;
        case 'P': give(things.add(Things.SHAPE_P, value, 0)); break;
        case 'Q': give(things.add(Things.SHAPE_Q, 0, value)); break;
        case 'p':
        case 'q': findField(user, sign); break;
        case 'X': failAsTold(); break;
        default: break; // "W", "Y": the VALUE is theirs as it is.
      }
    }

    private void passFaultOn() {
      if (waiting.isEmpty()) {
        mode = STOPPED;
        return;
      }
      waiting.pop();
      int user = waiting.expression();
      int sign = program.signOf(user);
      if (sign == '@' && waiting.stage() == CALLS) {
        depth--;
      } else if (sign == 'W') {
        ending.causes++;
      } else if (sign == 'Y' && isCaught(ending.codeAt(0))) {
        int caught = ending.codeAt(0);
        forgetFault();
        beginSecondWithCell(user, waiting.frame(), caught);
      }
    }

    private static boolean isCaught(int itsCode) {
      return itsCode != CODE_DEPTH && itsCode != CODE_STEPS;
    }

    private void forgetFault() {
      failed = false;
      ending.causes = 0;
      ending.lastCode = 0;
    }

    private void beginSecondWithCell(int user, int home, int content) {
      begin(program.secondOf(user), cells.add(program.variableOf(user), content, home));
    }

    private void useOneOfTwo(int user, int home, int sign) {
      if (waiting.stage() == MAKES_FIRST) {
        waiting.push(user, home, MAKES_SECOND, value);
        begin(program.secondOf(user), home);
        return;
      }
      int first = waiting.first();
      if (sign == 'B') {
        give(things.add(Things.SHAPE_PQ, first, value));
      } else if (sign == 'C') {
        give(things.add(Things.SHAPE_QP, value, first));
      } else {
        reckon(sign, first, value);
      }
    }

    private void reckon(int sign, int first, int second) {
      if (!Things.isNumber(first) || !Things.isNumber(second)) {
        fail(CODE_NO_NUMBER);
        return;
      }
      int result = sign == '+' ? first + second : sign == '-' ? first - second : first * second;
      if (result < -GREATEST_NUMBER || result > GREATEST_NUMBER) {
        fail(CODE_RANGE);
      } else {
        give(result);
      }
    }

    private void choose(int user, int home) {
      if (!Things.isNumber(value)) {
        fail(CODE_NO_NUMBER);
      } else {
        begin(value != 0 ? program.secondOf(user) : program.thirdOf(user), home);
      }
    }

    private void useForCall(int user, int home) {
      if (waiting.stage() == CALLS) {
        depth--;
      } else if (!things.isFunction(value)) {
        fail(CODE_NO_FUNCTION);
      } else {
        waiting.push(user, home, MAKES_SECOND, value);
        begin(program.secondOf(user), home);
      }
    }

    /** A CALL at the END leaves nothing that waits: so it takes the place of the one going on. */
    private void call(int user, int home, int function) {
      if (program.isAtEnd(user)) {
        ending.bounces++;
      } else if (depth >= MOST_DEPTH) {
        fail(CODE_DEPTH);
        return;
      } else {
        depth++;
        ending.greatestDepth = Math.max(ending.greatestDepth, depth);
        waiting.push(user, home, CALLS, 0);
      }
      int called = things.expressionOf(function);
      int inner = cells.add(program.variableOf(called), value, things.frameOf(function));
      begin(program.firstOf(called), inner);
    }

    private int valueOfVariable(int variable, int home) {
      int cell = cells.innermost(variable, home);
      return cell == Cells.NONE ? at(globals, variable) : cells.valueIn(cell);
    }

    private void store(int variable, int home) {
      int cell = cells.innermost(variable, home);
      if (cell != Cells.NONE) {
        cells.change(cell, value);
      } else if (Things.isNumber(value)) {
        put(globals, variable, value);
      } else {
        fail(CODE_NO_NUMBER);
      }
    }

    private void findField(int user, int sign) {
      if (!things.hasField(value, sign)) {
        fail(CODE_NO_FIELD);
        return;
      }
      caches.see(program.siteOf(user), things.kindOf(value));
      give(things.fieldOf(value, sign));
    }

    private void failAsTold() {
      if (!Things.isNumber(value)) {
        fail(CODE_NO_NUMBER);
      } else {
        fail(value >= 0 && value <= 9 ? CODE_TOLD + value : CODE_RANGE);
      }
    }
  }
}
