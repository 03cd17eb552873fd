import java.util.ArrayList;
import java.util.List;
import java.util.function.Supplier;
import java.util.function.ToLongFunction;

/**
 * Makes two objects by the same calls, lets one of them refuse a call, and looks at all that can be
 * asked of both: they differ in how many REFUSALS of that kind there were, and in nothing else.
 */
final class Twins {
  private static final int LEAST_FOR_NUMBERS = 1000000000;
  private static final long LEAST_FOR_LONGS = 4000000000000000000L;
  private final Check check;

  Twins(Check check) {
    this.check = check;
  }

  void refuse(String call, Supplier<ClosuresThatBounce> state, ToLongFunction<ClosuresThatBounce> does, long want) {
    ClosuresThatBounce x = state.get();
    ClosuresThatBounce twin = state.get();
    check.due(call, does.applyAsLong(x), want);
    for (int kind = 1; kind <= 6; kind++) {
      check.due(call + ", then count(" + (10 + kind) + ")", x.count(10 + kind),
          twin.count(10 + kind) + (kind == kindOf(want) ? 1 : 0));
    }
    alike(call, x, twin);
  }

  /** A call that is taken, or that answers what is no REFUSAL, counts nothing. */
  void take(String call, Supplier<ClosuresThatBounce> state, ToLongFunction<ClosuresThatBounce> does, long want) {
    check.due(call, does.applyAsLong(state.get()), want);
    take(call, state, does);
  }

  /** The same, whatever it answers. */
  void take(String call, Supplier<ClosuresThatBounce> state, ToLongFunction<ClosuresThatBounce> does) {
    ClosuresThatBounce x = state.get();
    ClosuresThatBounce twin = state.get();
    does.applyAsLong(x);
    for (int what = 11; what <= 16; what++) {
      check.due(call + ", then count(" + what + ")", x.count(what), twin.count(what));
    }
  }

  /** A call that is taken and changes nothing at all. */
  void look(String call, Supplier<ClosuresThatBounce> state, ToLongFunction<ClosuresThatBounce> does, long want) {
    take(call, state, does, want);
    ClosuresThatBounce x = state.get();
    does.applyAsLong(x);
    alike(call, x, state.get());
  }

  private void alike(String call, ClosuresThatBounce x, ClosuresThatBounce twin) {
    List<Long> one = everything(x);
    List<Long> two = everything(twin);
    for (int i = 0; i < two.size(); i++) {
      check.due(call + ", then look " + i, one.get(i), two.get(i));
    }
  }

  private static int kindOf(long want) {
    if (want < 0) {
      return (int) -want;
    }
    return (int) (want - (want >= LEAST_FOR_LONGS ? LEAST_FOR_LONGS : LEAST_FOR_NUMBERS));
  }

  /** Some 250 calls, so that the state may have had 250, too. The last of them change the object. */
  private static List<Long> everything(ClosuresThatBounce x) {
    List<Long> seen = new ArrayList<>();
    state(x, seen);
    for (int what = 0; what <= 1; what++) {
      seen.add((long) x.fewest(0, what));
      seen.add((long) x.again(2, what));
      seen.add(x.likely(3, what));
      seen.add(x.mean(0, what));
      seen.add((long) x.lots(2, 5, what));
    }
    seen.add((long) x.solve(0, 1));
    seen.add((long) x.pure());
    seen.add((long) x.changes());
    seen.add((long) x.whatIs(0));
    seen.add((long) x.letter('2'));
    seen.add((long) x.program());
    state(x, seen);
    seen.add((long) x.judge());
    seen.add((long) x.on());
    state(x, seen);
    return seen;
  }

  private static void state(ClosuresThatBounce x, List<Long> seen) {
    for (int what = 0; what <= 7; what++) {
      seen.add((long) x.count(what));
    }
    for (int i = 0; i <= 5; i++) {
      seen.add((long) x.global(i));
      seen.add((long) x.ended(i));
      seen.add((long) x.code(i));
      seen.add((long) x.thinks(i));
      seen.add((long) x.with(0, 3, i));
    }
    for (int site = 0; site <= 2; site++) {
      for (int what = 0; what <= 3; what++) {
        seen.add((long) x.cache(site, what));
      }
    }
  }
}
