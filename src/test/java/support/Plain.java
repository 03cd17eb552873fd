import java.util.ArrayList;
import java.util.Arrays;
import java.util.List;

/**
 * The same face, written once more from the document in the plainest way: a tree that is walked by
 * recursion, objects for CELLS and VALUES, Java's exceptions for FAULTS. The program is held against it.
 */
final class Plain {
  static final class Node {
    char sign;
    int variable = -1;
    int site = -1;
    List<Node> parts = new ArrayList<>();
  }

  static final class Frame {
    final int variable;
    Object value;
    final Frame outer;

    Frame(int variable, Object value, Frame outer) {
      this.variable = variable;
      this.value = value;
      this.outer = outer;
    }
  }

  static final class Function {
    final Node made;
    final Frame caught;

    Function(Node made, Frame caught) {
      this.made = made;
      this.caught = caught;
    }
  }

  static final class Rec {
    final int shape;
    final Object p;
    final Object q;

    Rec(int shape, Object p, Object q) {
      this.shape = shape;
      this.p = p;
      this.q = q;
    }
  }

  /** A CALL at the END, handed to the CALL that is going on. */
  static final class Bounce {
    final Function function;
    final Object argument;

    Bounce(Function function, Object argument) {
      this.function = function;
      this.argument = argument;
    }
  }

  static final class Fault extends RuntimeException {
    private static final long serialVersionUID = 1L;
    final int code;
    final transient Fault cause;

    Fault(int code, Fault cause) {
      super(null, null, false, false);
      this.code = code;
      this.cause = cause;
    }
  }

  static final class World implements Cloneable {
    String text = "0";
    int[] globals = new int[6];
    int[] seen = new int[10];
    int[] hits = new int[10];
    int[] misses = new int[10];
    int[] ended = null;
    List<Integer> codes = new ArrayList<>();
    int runs = 0;

    World copy() {
      World w = new World();
      w.text = text;
      w.globals = globals.clone();
      w.seen = seen.clone();
      w.hits = hits.clone();
      w.misses = misses.clone();
      w.ended = ended == null ? null : ended.clone();
      w.codes = new ArrayList<>(codes);
      w.runs = runs;
      return w;
    }
  }

  /** Reads letters by recursion; what is wrong with them is an int[] thrown up as a Fault of that number. */
  static final class Reader {
    final String text;
    int place = 0;
    int sites = 0;
    List<Integer> places = new ArrayList<>();
    List<Integer> sitePlaces = new ArrayList<>();

    Reader(String text) {
      this.text = text;
    }

    Node whole() {
      Node n = expression();
      if (place < text.length()) {
        throw new Fault(-1000 - place, null);
      }
      int beyond = Integer.MAX_VALUE;
      if (places.size() > 40) {
        beyond = places.get(40);
      }
      if (sitePlaces.size() > 10) {
        beyond = Math.min(beyond, sitePlaces.get(10));
      }
      if (beyond != Integer.MAX_VALUE) {
        throw new Fault(-2000 - beyond, null);
      }
      return n;
    }

    int variable() {
      if (place >= text.length() || "abcdef".indexOf(text.charAt(place)) < 0) {
        throw new Fault(-1000 - place, null);
      }
      return text.charAt(place++) - 'a';
    }

    Node expression() {
      if (place >= text.length()) {
        throw new Fault(-1000 - place, null);
      }
      Node n = new Node();
      n.sign = text.charAt(place);
      if ("0123456789abcdef+-*?,LSF@PQBCpqXWY".indexOf(n.sign) < 0) {
        throw new Fault(-1000 - place, null);
      }
      places.add(place);
      if (n.sign == 'p' || n.sign == 'q') {
        sitePlaces.add(place);
        n.site = sites++;
      }
      place++;
      if ("LSF".indexOf(n.sign) >= 0) {
        n.variable = variable();
      }
      int parts = "+-*,L@BCY".indexOf(n.sign) >= 0 ? 2 : n.sign == '?' ? 3 : "SFPQpqXW".indexOf(n.sign) >= 0 ? 1 : 0;
      for (int i = 0; i < parts; i++) {
        if (n.sign == 'Y' && i == 1) {
          n.variable = variable();
        }
        n.parts.add(expression());
      }
      return n;
    }
  }

  /** One RUN on a world, which it changes. */
  static final class Walk {
    final World world;
    int steps = 0;
    int depth = 0;
    int deepest = 0;
    int bounces = 0;

    Walk(World world) {
      this.world = world;
    }

    void whole() {
      Node root = new Reader(world.text).whole();
      world.codes = new ArrayList<>();
      int how;
      int told;
      try {
        Object v = make(root, null, false);
        if (v instanceof Integer) {
          how = 0;
          told = (Integer) v;
        } else if (v instanceof Function) {
          how = 1;
          told = ((Function) v).made.variable;
        } else {
          how = 2;
          told = ((Rec) v).shape;
        }
      } catch (Fault f) {
        how = 3;
        told = f.code;
        for (Fault g = f; g != null; g = g.cause) {
          world.codes.add(g.code);
        }
      }
      world.ended = new int[] {how, told, steps, deepest, bounces, Math.max(0, world.codes.size() - 1)};
      world.runs++;
    }

    static int number(Object v) {
      if (!(v instanceof Integer)) {
        throw new Fault(1, null);
      }
      return (Integer) v;
    }

    static Frame find(Frame f, int variable) {
      while (f != null && f.variable != variable) {
        f = f.outer;
      }
      return f;
    }

    Object make(Node n, Frame frame, boolean end) {
      if (steps == 400) {
        throw new Fault(6, null);
      }
      steps++;
      if (Character.isDigit(n.sign)) {
        return n.sign - '0';
      }
      if (n.sign >= 'a' && n.sign <= 'f') {
        Frame f = find(frame, n.sign - 'a');
        return f == null ? (Object) world.globals[n.sign - 'a'] : f.value;
      }
      switch (n.sign) {
        case '?':
          return make(n.parts.get(number(make(n.parts.get(0), frame, false)) != 0 ? 1 : 2), frame, end);
        case ',':
          make(n.parts.get(0), frame, false);
          return make(n.parts.get(1), frame, end);
        case 'L':
          return make(n.parts.get(1), new Frame(n.variable, make(n.parts.get(0), frame, false), frame), end);
        case 'S':
          return set(n.variable, make(n.parts.get(0), frame, false), find(frame, n.variable));
        case 'F':
          return new Function(n, frame);
        case '@':
          return applied(n, frame, end);
        case 'P':
          return new Rec(0, make(n.parts.get(0), frame, false), null);
        case 'Q':
          return new Rec(1, null, make(n.parts.get(0), frame, false));
        case 'p':
        case 'q':
          return field(n, make(n.parts.get(0), frame, false));
        case 'X':
          int x = number(make(n.parts.get(0), frame, false));
          throw new Fault(x >= 0 && x <= 9 ? 10 + x : 4, null);
        case 'W':
          try {
            return make(n.parts.get(0), frame, false);
          } catch (Fault f) {
            throw new Fault(7, f);
          }
        case 'Y':
          return tried(n, frame, end);
        default:
          return ofTwo(n.sign, make(n.parts.get(0), frame, false), make(n.parts.get(1), frame, false));
      }
    }

    Object ofTwo(char sign, Object one, Object two) {
      if (sign == 'B') {
        return new Rec(2, one, two);
      }
      if (sign == 'C') {
        return new Rec(3, two, one);
      }
      long a = number(one);
      long b = number(two);
      long r = sign == '+' ? a + b : sign == '-' ? a - b : a * b;
      if (Math.abs(r) > 9999) {
        throw new Fault(4, null);
      }
      return (int) r;
    }

    Object set(int variable, Object v, Frame f) {
      if (f != null) {
        f.value = v;
      } else {
        world.globals[variable] = number(v);
      }
      return v;
    }

    Object field(Node n, Object v) {
      if (!(v instanceof Rec)) {
        throw new Fault(3, null);
      }
      Rec r = (Rec) v;
      Object got = n.sign == 'p' ? r.p : r.q;
      if (got == null) {
        throw new Fault(3, null);
      }
      boolean known = (world.seen[n.site] >> r.shape & 1) == 1;
      if (known && Integer.bitCount(world.seen[n.site]) <= 2) {
        world.hits[n.site]++;
      } else {
        world.misses[n.site]++;
        world.seen[n.site] |= 1 << r.shape;
      }
      return got;
    }

    Object tried(Node n, Frame frame, boolean end) {
      int before = depth;
      int code;
      try {
        return make(n.parts.get(0), frame, false);
      } catch (Fault f) {
        if (f.code == 5 || f.code == 6) {
          throw f;
        }
        code = f.code;
      }
      depth = before;
      return make(n.parts.get(1), new Frame(n.variable, code, frame), end);
    }

    Object applied(Node n, Frame frame, boolean end) {
      Object f = make(n.parts.get(0), frame, false);
      if (!(f instanceof Function)) {
        throw new Fault(2, null);
      }
      Object argument = make(n.parts.get(1), frame, false);
      if (end) {
        bounces++;
        return new Bounce((Function) f, argument);
      }
      if (depth == 12) {
        throw new Fault(5, null);
      }
      depth++;
      deepest = Math.max(deepest, depth);
      Object v = new Bounce((Function) f, argument);
      while (v instanceof Bounce) {
        Bounce b = (Bounce) v;
        Frame inner = new Frame(b.function.made.variable, b.argument, b.function.caught);
        v = make(b.function.made.parts.get(0), inner, true);
      }
      depth--;
      return v;
    }
  }

  private World world = new World();
  private World kept = null;
  private String letters = "";
  private List<Integer> rowed = new ArrayList<>();
  private final int[] refusals = new int[7];

  private int no(int number) {
    refusals[-number]++;
    return number;
  }

  private int noNumber(int number) {
    return 1000000000 - no(number);
  }

  private World think(World from) {
    World w = from.copy();
    new Walk(w).whole();
    return w;
  }

  private World thinkWith(int variable, int n) {
    World w = world.copy();
    w.globals[variable] = n;
    new Walk(w).whole();
    return w;
  }

  private static boolean outside(int n, int least, int most) {
    return n < least || n > most;
  }

  int letter(int c) {
    if (c < 0) {
      return no(-4);
    }
    if (c > 255 || letters.length() == 96) {
      return no(-6);
    }
    letters += (char) c;
    return letters.length();
  }

  int program() {
    String text = letters;
    letters = "";
    try {
      Reader r = new Reader(text);
      r.whole();
      World w = new World();
      w.text = text;
      w.globals = world.globals;
      world = w;
      return r.places.size();
    } catch (Fault f) {
      return f.code;
    }
  }

  int global(int variable) {
    return outside(variable, 0, 5) ? noNumber(-1) : world.globals[variable];
  }

  int sets(int variable, int n) {
    if (outside(variable, 0, 5)) {
      return noNumber(-1);
    }
    if (n < -9999) {
      return noNumber(-4);
    }
    if (n > 9999) {
      return noNumber(-6);
    }
    int was = world.globals[variable];
    world.globals[variable] = n;
    return was;
  }

  int run() {
    new Walk(world).whole();
    return world.ended[0];
  }

  int ended(int what) {
    if (outside(what, 0, 5)) {
      return noNumber(-2);
    }
    return world.ended == null ? noNumber(-3) : world.ended[what];
  }

  int code(int i) {
    if (world.ended == null || world.ended[0] != 3) {
      return no(-3);
    }
    return i < 0 || i >= world.codes.size() ? no(-1) : world.codes.get(i);
  }

  private int expressions() {
    Reader r = new Reader(world.text);
    r.whole();
    return r.places.size();
  }

  private int siteCount() {
    Reader r = new Reader(world.text);
    r.whole();
    return r.sites;
  }

  int cache(int site, int what) {
    if (outside(site, 0, siteCount() - 1)) {
      return no(-1);
    }
    if (outside(what, 0, 3)) {
      return no(-2);
    }
    int[] four = {Integer.bitCount(world.seen[site]), world.seen[site], world.hits[site], world.misses[site]};
    return four[what];
  }

  int thinks(int what) {
    return outside(what, 0, 5) ? noNumber(-2) : think(world).ended[what];
  }

  int with(int variable, int n, int what) {
    if (outside(variable, 0, 5)) {
      return noNumber(-1);
    }
    if (n < -9999) {
      return noNumber(-4);
    }
    if (n > 9999) {
      return noNumber(-6);
    }
    return outside(what, 0, 5) ? noNumber(-2) : thinkWith(variable, n).ended[what];
  }

  int solve(int variable, int n) {
    if (outside(variable, 0, 5)) {
      return noNumber(-1);
    }
    if (n < -9999) {
      return noNumber(-4);
    }
    if (n > 9999) {
      return noNumber(-6);
    }
    for (int v = -20; v <= 20; v++) {
      int[] e = thinkWith(variable, v).ended;
      if (e[0] == 0 && e[1] == n) {
        return v;
      }
    }
    return 999999999;
  }

  int fewest(int variable, int what) {
    if (outside(variable, 0, 5)) {
      return noNumber(-1);
    }
    if (outside(what, 0, 1)) {
      return noNumber(-2);
    }
    int best = 999999999;
    int steps = 999999999;
    for (int v = 20; v >= -20; v--) {
      int[] e = thinkWith(variable, v).ended;
      if (e[0] != 3 && e[2] <= steps) {
        best = v;
        steps = e[2];
      }
    }
    return what == 0 ? best : steps;
  }

  int pure() {
    World one = think(world);
    World two = think(one);
    boolean alike = one.ended[0] == two.ended[0] && one.ended[1] == two.ended[1];
    return alike && Arrays.equals(two.globals, world.globals) ? 1 : 0;
  }

  int changes() {
    World w = think(world);
    int n = 0;
    for (int i = 0; i < 10; i++) {
      n += Integer.bitCount(w.seen[i]) != Integer.bitCount(world.seen[i]) ? 1 : 0;
    }
    return n;
  }

  int again(int n, int what) {
    if (outside(n, 1, 20)) {
      return noNumber(n < 1 ? -4 : -6);
    }
    if (outside(what, 0, 1)) {
      return noNumber(-2);
    }
    World w = world;
    int faults = 0;
    for (int i = 0; i < n; i++) {
      w = think(w);
      faults += w.ended[0] == 3 ? 1 : 0;
    }
    return what == 0 ? faults : w.globals[0];
  }

  private static long part(long above, long below, int part) {
    for (long d = below; d > 1; d--) {
      if (above % d == 0 && below % d == 0) {
        above /= d;
        below /= d;
      }
    }
    return part == 0 ? above : below;
  }

  long likely(int t, int part) {
    if (outside(t, 2, 20)) {
      return 4000000000000000000L - no(t < 2 ? -4 : -6);
    }
    if (outside(part, 0, 1)) {
      return 4000000000000000000L - no(-2);
    }
    long above = 0;
    for (int a = 0; a < 2; a++) {
      for (int b = 0; b < 2; b++) {
        for (int c = 0; c < 2; c++) {
          World w = world.copy();
          w.globals[0] = a;
          w.globals[1] = b;
          w.globals[2] = c;
          if (think(w).ended[0] != 3) {
            above += (long) (a == 1 ? 1 : t - 1) * (b == 1 ? 1 : t - 1) * (c == 1 ? 1 : t - 1);
          }
        }
      }
    }
    return part(above, (long) t * t * t, part);
  }

  long mean(int variable, int part) {
    if (outside(variable, 0, 5)) {
      return 4000000000000000000L - no(-1);
    }
    if (outside(part, 0, 1)) {
      return 4000000000000000000L - no(-2);
    }
    long all = 0;
    for (int n = 0; n < 10; n++) {
      all += thinkWith(variable, n).ended[2];
    }
    return part(all, 10, part);
  }

  int whatIs(int variable) {
    if (outside(variable, 0, 5)) {
      return no(-1);
    }
    int bits = 0;
    for (int v = 0; v < 16; v++) {
      boolean all = true;
      for (int i = 0; i < rowed.size() && all; i++) {
        all = thinkWith(variable, v + i).ended[0] == rowed.get(i);
      }
      bits += all ? 1 << v : 0;
    }
    return bits;
  }

  int row(int v) {
    if (v < 0) {
      return no(-4);
    }
    if (v > 99 || rowed.size() == 16) {
      return no(-6);
    }
    rowed.add(v);
    return rowed.size();
  }

  int judge() {
    List<Integer> told = rowed;
    rowed = new ArrayList<>();
    for (int i = 0; i < told.size(); i++) {
      int[] e = thinkWith(0, i).ended;
      if (e[0] != 0 || e[1] != told.get(i)) {
        return i;
      }
    }
    return -9;
  }

  int clear() {
    int n = rowed.size();
    rowed.clear();
    return n;
  }

  int lots(int n, int z, int what) {
    if (outside(n, 1, 20)) {
      return noNumber(n < 1 ? -4 : -6);
    }
    if (outside(what, 0, 1)) {
      return noNumber(-2);
    }
    int sum = 0;
    int faults = 0;
    for (int i = 0; i < n; i++) {
      World w = world.copy();
      for (int v = 0; v < 6; v++) {
        z = z * 1664525 + 1013904223;
        w.globals[v] = ((z & 0x7fffffff) >> 8) % 10;
      }
      int[] e = think(w).ended;
      sum += e[0] == 0 ? e[1] : 0;
      faults += e[0] == 3 ? 1 : 0;
    }
    return what == 0 ? sum : faults;
  }

  int image() {
    kept = world.copy();
    return expressions();
  }

  int on() {
    if (kept == null) {
      return no(-3);
    }
    world = kept.copy();
    return expressions();
  }

  int count(int what) {
    switch (what) {
      case 0: return expressions();
      case 1: return siteCount();
      case 2: return world.ended == null ? 0 : 1;
      case 3: return Arrays.stream(world.hits).sum();
      case 4: return Arrays.stream(world.misses).sum();
      case 5: return Math.min(99, world.runs);
      case 6: return rowed.size();
      case 7: return letters.length();
      default: return what >= 11 && what <= 16 ? refusals[what - 10] : -9;
    }
  }
}
