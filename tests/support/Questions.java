import java.util.ArrayList;
import java.util.List;
import java.util.function.Supplier;

/**
 * What can be asked of a pack without changing it, and the comparing of two packs by it. An object is of use for 512
 * calls alone: so the questions are asked in parts, each part of objects of their own.
 */
class Questions extends Due {
  static final class Question {
    final String call;
    final Ask ask;
    Question(String call, Ask ask) { this.call = call; this.ask = ask; }
  }
  interface Two { long of(PackWatch x, int a, int b); }
  interface Three { long of(PackWatch x, int a, int b, int c); }

  static final int PART = 200;
  static final List<List<Question>> PARTS = inParts(all());

  private static void one(List<Question> to, String call, int from, int till, Call asked) {
    for (int n = from; n <= till; n++) {
      int a = n;
      to.add(new Question(call + "(" + a + ")", x -> asked.of(x, a)));
    }
  }
  private static void two(List<Question> to, String call, int from, int till, int least, int most, Two asked) {
    for (int n = from; n <= till; n++) {
      int a = n;
      one(to, call + "(" + a + ", ..)", least, most, (x, b) -> asked.of(x, a, b));
    }
  }
  private static void three(List<Question> to, String call, int a, int from, int till, int least, int most, Three asked) {
    two(to, call + "(" + a + ", ..)", from, till, least, most, (x, b, c) -> asked.of(x, a, b, c));
  }

  private static List<Question> all() {
    List<Question> to = new ArrayList<>();
    one(to, "is", 0, 16, PackWatch::is);
    one(to, "setting", 0, 30, PackWatch::setting);
    two(to, "of", 0, 3, 0, 18, PackWatch::of);
    two(to, "of", 15, 16, 0, 18, PackWatch::of);
    two(to, "ruleOf", -1, 8, 0, 4, PackWatch::ruleOf);
    two(to, "module", 0, 3, 0, 3, PackWatch::module);
    two(to, "zoneOf", 0, 6, 0, 1, PackWatch::zoneOf);
    two(to, "cycles", 0, 2, 0, 10, PackWatch::cycles);
    two(to, "turn", 0, 2, 0, 32, PackWatch::turn);
    one(to, "stuckAs", 0, 2, PackWatch::stuckAs);
    one(to, "warnings", 0, 0, (x, n) -> x.warnings());
    one(to, "need", 0, 3, PackWatch::need);
    two(to, "trace", -1, 32, 0, 2, PackWatch::trace);
    one(to, "culprit", 0, 3, PackWatch::culprit);
    for (int m = 0; m < 3; m++) three(to, "since", m, 0, 2, 0, 3, PackWatch::since);
    one(to, "rank", 0, 15, PackWatch::rank);
    one(to, "middle", 0, 0, (x, n) -> x.middle());
    one(to, "scatter", 0, 0, (x, n) -> x.scatter());
    one(to, "goal", 0, 0, (x, n) -> x.goal());
    one(to, "flow", 0, 14, PackWatch::flow);
    one(to, "halves", 0, 1, PackWatch::halves);
    two(to, "cheapest of 24", 0, 24, 0, 1, (x, k, what) -> x.cheapest(k, 3, what));
    two(to, "hours", 700, 701, 99, 100, PackWatch::hours);
    one(to, "energy", 0, 0, (x, n) -> x.energy());
    one(to, "below", 498, 502, PackWatch::below);
    one(to, "rest", 0, 3, PackWatch::rest);
    one(to, "partBy", 3700, 3703, PackWatch::partBy);
    one(to, "limit", 0, 1, PackWatch::limit);
    one(to, "worst", 0, 1, PackWatch::worst);
    one(to, "spread", 0, 0, (x, n) -> x.spread());
    one(to, "mayReset", 0, 10, (x, n) -> num(x.mayReset(n)));
    one(to, "when", 0, 10, PackWatch::when);
    two(to, "book", -1, 24, 0, 1, PackWatch::book);
    two(to, "driveOf", 0, 24, 0, 1, PackWatch::driveOf);
    one(to, "room", 0, 1, PackWatch::room);
    one(to, "fullness", 0, 0, (x, n) -> x.fullness());
    one(to, "off", 0, 0, (x, n) -> x.off());
    for (int n : new int[] {1, 2, 3, 40}) {
      two(to, "foretold", n, n, 0, 15, PackWatch::foretold);
      three(to, "foretoldOf", n, 0, 2, 0, 18, PackWatch::foretoldOf);
    }
    one(to, "driven", 0, 15, PackWatch::driven);
    one(to, "bare", 0, 0, (x, n) -> x.bare());
    one(to, "harm", 1, 5, PackWatch::harm);
    two(to, "power", 0, 1, 1, 3, PackWatch::power);
    two(to, "bestBand", 1, 2, 15, 25, PackWatch::bestBand);
    one(to, "yields", 99, 101, PackWatch::yields);
    one(to, "eta", 0, 1, PackWatch::eta);
    one(to, "bestMode", 1, 5, PackWatch::bestMode);
    one(to, "steps", 0, 0, (x, n) -> x.steps());
    return to;
  }

  private static List<List<Question>> inParts(List<Question> all) {
    List<List<Question>> parts = new ArrayList<>();
    for (int i = 0; i < all.size(); i += PART) parts.add(all.subList(i, Math.min(all.size(), i + PART)));
    return parts;
  }

  /** Two that were made otherwise answer alike, whatever is asked. */
  static void alike(String told, Supplier<PackWatch> one, Supplier<PackWatch> other) {
    for (List<Question> part : PARTS) {
      PackWatch x = one.get();
      PackWatch y = other.get();
      for (Question q : part) due(told + ": " + q.call, q.ask.of(x), q.ask.of(y));
    }
  }

  /** What can be taken back is alike, too: one STEP behind the other, and then a new one. */
  static void stepsAlike(String told, Supplier<PackWatch> one, Supplier<PackWatch> other) {
    PackWatch x = one.get();
    PackWatch y = other.get();
    for (int i = 0; i < 21; i++) {
      due(told + ": undo() " + i, x.undo(), y.undo());
      for (int what = 0; what < 16; what++) due(told + ": is(" + what + ") behind undo() " + i, x.is(what), y.is(what));
    }
  }

  /** THE IMAGE is alike, too. */
  static void imagesAlike(String told, Supplier<PackWatch> one, Supplier<PackWatch> other) {
    PackWatch x = one.get();
    PackWatch y = other.get();
    due(told + ": back()", x.back(), y.back());
    due(told + ": steps() behind back()", x.steps(), y.steps());
    for (int what = 0; what < 16; what++) due(told + ": is(" + what + ") behind back()", x.is(what), y.is(what));
    for (int what = 0; what < 30; what++) due(told + ": setting(" + what + ") behind back()", x.setting(what), y.setting(what));
  }
}
