import java.util.function.IntFunction;
import java.util.function.IntToLongFunction;
import java.util.function.Supplier;

/** What the tests by sentences share: each test bears the sentence it is for, and makes its own objects. */
class Due {
  static final int NONE = -1, BAD = -1000000000;
  /** No MEASURED OHMS (promise 23). */
  static final int NO_OHMS = -1000000;
  static final int MAX = Integer.MAX_VALUE, MIN = Integer.MIN_VALUE;
  static final int OPEN = 0, PRECHARGE = 1, CLOSED = 2;

  static final int[] LEAST = {3000, 2000, 200, -400, 1, 1, -400, 0, 0, 0, 0, 0, 0, 0, 0, 0, 0, 1, -999, 1, -99999, 1,
    0, 0, 0, 0, 0, 0, 0, 0};
  static final int[] MOST = {4500, 3700, 900, 200, 99999, 999, 600, 9999, 9999, 99999, 9999, 2, 9999, 16, 999, 99999,
    100, 2000, 999, 99, 99999, 99, 64, 4500, 9999, 99, 200, 999, 999, 1};
  static final int[] FIRST = {4200, 2900, 600, 0, 50000, 200, 250, 0, 20, 9999, 500, 0, 100, 4, 10, 500, 90, 900, 0,
    10, 0, 10, 0, 0, 0, 0, 0, 0, 0, 1};

  private static int wrong = 0;
  private static int tests = 0;
  private static String sentence = "";

  interface Body { void go(); }
  interface Ask { long of(PackWatch x); }
  interface Call { long of(PackWatch x, int n); }

  static void test(String told, Body body) {
    sentence = told;
    tests++;
    body.go();
  }
  static void due(String call, long got, long want) {
    if (got != want) tell(call, Long.toString(got), Long.toString(want));
  }
  static void due(String call, boolean got, boolean want) { due(call, num(got), num(want)); }
  static void due(String call, String got, String want) {
    if (!got.equals(want)) tell(call, got, want);
  }
  private static void tell(String call, String got, String want) {
    wrong++;
    if (wrong <= 50) System.out.println("[" + sentence + "] " + call + " answered " + got + ", due is " + want);
  }
  static long num(boolean b) { return b ? 1 : 0; }

  static void finish(String name) {
    System.out.println(wrong == 0 ? name + ": " + tests + " tests hold" : name + ": " + wrong + " answers are not as due");
    if (wrong != 0) System.exit(1);
  }

  /**
   * An argument least .. most: at both bounds, beside them within and beyond, at the least and the
   * greatest int; each asked of an object of its own. Beyond, the call answers what refuses it.
   */
  static void argument(String call, Supplier<PackWatch> made, int least, int most, long refused,
      IntToLongFunction want, Call asked) {
    long[] tried = {least, least + 1L, most - 1L, most, least - 1L, most + 1L, least - 2L, most + 100L, MIN, MAX};
    for (long n : tried) {
      if (n < MIN || n > MAX) continue;
      boolean within = n >= least && n <= most;
      due(call + " with " + n, asked.of(made.get(), (int) n), within ? want.applyAsLong((int) n) : refused);
    }
  }
  /** An argument that may be nothing at all within these: all of them are refused. */
  static void refused(String call, Supplier<PackWatch> made, long refused, Call asked, int... numbers) {
    for (int n : numbers) due(call + " with " + n, asked.of(made.get(), n), refused);
  }
  /** The answers of one question, each of an object that was made for its number. */
  static void row(String call, IntFunction<PackWatch> made, Ask ask, int[] numbers, long... want) {
    for (int i = 0; i < numbers.length; i++) due(call + " by " + numbers[i], ask.of(made.apply(numbers[i])), want[i]);
  }

  // ---- packs

  /** Cells as (CAPACITY, PART, OHMS); nothing else is as not at first. */
  static PackWatch cells(int... told) {
    PackWatch x = new PackWatch();
    for (int i = 0; i + 2 < told.length; i += 3) x.cell(told[i], told[i + 1], told[i + 2]);
    return x;
  }
  /** CLOSED at TIME 11, with REQUEST 0, SLOPE 0 and SPREAD 2000. */
  static PackWatch closed(int... told) {
    PackWatch x = cells(told);
    set(x, 8, 0, 17, 2000);
    x.close();
    x.run(11);
    if (x.is(1) != CLOSED) due("closed(): STATE", x.is(1), CLOSED);
    return x;
  }
  static PackWatch set(PackWatch x, int... pairs) {
    for (int i = 0; i + 1 < pairs.length; i += 2) due("set(" + pairs[i] + ", " + pairs[i + 1] + ")", x.set(pairs[i], pairs[i + 1]), true);
    return x;
  }
  /** At a TIME, by SECONDS that are gone through at once. */
  static PackWatch at(PackWatch x, int time) {
    while (x.is(6) < time) x.run(Math.min(300, time - x.is(6)));
    return x;
  }
  static PackWatch charges(PackWatch x, int... told) {
    for (int i = 0; i < told.length; i++) due("charge(" + i + ", " + told[i] + ")", x.charge(i, told[i]), true);
    return x;
  }
  /** One second more. */
  static PackWatch second(PackWatch x) {
    x.run(1);
    return x;
  }
  /** Cells alike, so many. */
  static PackWatch alike(int count, int capacity, int part, int ohms) {
    PackWatch x = new PackWatch();
    for (int i = 0; i < count; i++) x.cell(capacity, part, ohms);
    return x;
  }
}
