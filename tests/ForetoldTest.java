import java.util.List;
import java.util.function.Supplier;

/**
 * What is foretold is what comes; what is taken back or brought BACK is as it was, whatever stood there between. Of
 * packs in which nearly nothing is as at first, so that nothing can be left behind unseen.
 */
public final class ForetoldTest extends Questions {
  static PackWatch wide(int... told) { return set(closed(told), 0, 4500, 1, 2000, 4, 99999, 5, 999); }

  /** CLOSED, CURRENT to and fro, worn, RESTED and RESTING between, held back, tapered, marked. */
  static PackWatch rich() {
    PackWatch x = wide(110, 500, 30, 120, 520, 0, 130, 480, 5);
    set(x, 24, 1, 25, 50, 22, 30, 19, 2, 18, 3, 27, 2, 14, 5);
    x.zone(-400, 30000);
    x.zone(260, 4200);
    x.rule(4, true, 4100, 14, 3);
    x.rule(8, true, 1, 12, 222);
    x.mark(1);
    for (int q : new int[] {5000, -3000, 1500, 0, 3500, 0}) {
      set(x, 20, q);
      x.run(q == 3500 ? 9 : 3);
    }
    x.warm(2, 290);
    set(x, 20, 6000, 11, 1);
    x.run(2);
    x.piece(0, 3);
    x.piece(5000, 4);
    x.piece(-4500, 2);
    return x;
  }
  static PackWatch shuttling() { return set(rich(), 11, 2, 23, 3690, 15, 3000, 28, 90); }
  /** As if at rest for a SECOND; RESTING in the next one. */
  static PackWatch resting() {
    PackWatch x = second(set(rich(), 20, 0));
    x.charge(0, 90000);
    return x;
  }
  /** LEAK and WELD in the next SECOND. */
  static PackWatch onTheBrink() {
    PackWatch x = set(rich(), 9, 3, 20, 0);
    x.run(1);
    x.stuck(1, 1);
    return second(x);
  }
  static PackWatch slow() {
    PackWatch x = set(cells(500, 300, 3, 600, 700, 4), 8, 0, 7, 40, 6, 300);
    x.close();
    x.run(5);
    return x;
  }
  /** Other content in all that the pack keeps. */
  static PackWatch otherwise(PackWatch x) {
    set(x, 20, -7000, 24, 2, 25, 9, 11, 0, 14, 99, 18, -7, 19, 1);
    x.unrule();
    for (int i = 0; i < 8; i++) x.rule(6, true, 0, 15, 50 + i);
    x.undo();
    for (int i = 500; i < 506; i++) x.zone(i, 7 * i);
    for (int h = 0; h < 24; h++) x.price(h, 900 - h);
    x.wipe();
    for (int i = 0; i < 9; i++) x.piece(100 * i, 3);
    for (int c = 0; c < 3; c++) x.stuck(c, 2 - c);
    x.cell(9999, 1000, 99);
    x.warm(0, 1200);
    for (int m = 0; m < 3; m++) x.mark(m);
    x.charge(0, 7);
    x.run(40);
    x.charge(0, 70000);
    x.run(1);
    x.charge(0, 7);
    x.run(1);
    x.hear();
    return x;
  }

  static final List<String> NAMES = List.of("to and fro", "SHUTTLES", "at rest", "on the brink", "PRECHARGE", "new");
  static final List<Supplier<PackWatch>> PACKS = List.of(ForetoldTest::rich, ForetoldTest::shuttling, ForetoldTest::resting, ForetoldTest::onTheBrink,
      ForetoldTest::slow, PackWatch::new);

  static void comes(String name, Supplier<PackWatch> made) {
    test(name + ": 57, 58: FORETOLD behind n SECONDS is what comes", () -> {
      for (int n : new int[] {1, 2, 3, 4, 10, 77, 300}) {
        PackWatch x = made.get();
        PackWatch y = made.get();
        y.run(n);
        for (int what = 0; what < 16; what++) due("foretold(" + n + ", " + what + ")", x.foretold(n, what), y.is(what));
        for (int c = 0; c < y.is(0); c++)
          for (int what = 0; what < 19; what++) due("foretoldOf(" + n + ", " + c + ", " + what + ")", x.foretoldOf(n, c, what), y.of(c, what));
      }
    });
    test(name + ": 59: FORETOLD behind THE DRIVE is what comes", () -> {
      PackWatch x = made.get();
      PackWatch y = made.get();
      y.drive();
      for (int what = 0; what < 16; what++) due("driven(" + what + ")", x.driven(what), y.is(what));
    });
    test(name + ": 61: HARM is what is latched first", () -> {
      PackWatch x = made.get();
      int before = x.is(5);
      int harm = x.harm(100);
      int first = NONE;
      for (int s = 0; s < 100 && first == NONE; s++) {
        second(x);
        int more = x.is(5) & ~before;
        if (more != 0) first = Integer.numberOfTrailingZeros(more);
      }
      due("harm(100)", harm, first);
    });
    test(name + ": 60: BARE is the first SECOND in which none works", () -> {
      PackWatch x = made.get();
      int bare = x.bare();
      int first = NONE;
      for (int s = 1; s <= 150 && first == NONE; s++) {
        int moved = x.is(10);
        second(x);
        if (x.is(13) == 0 && x.is(10) == moved) first = s;
      }
      due("bare()", bare > 150 ? NONE : bare, first);
    });
    test(name + ": 65: ETA is when a CELL is full, empty first", () -> {
      for (int way = 0; way < 2; way++) {
        PackWatch x = made.get();
        int eta = x.eta(way);
        int first = NONE;
        for (int s = 0; s <= 100 && first == NONE; s++) {
          if (s > 0) second(x);
          if (x.room(way) == 0) first = s;
        }
        due("eta(" + way + ")", eta > 100 ? NONE : eta, first);
      }
    });
    test(name + ": 64: YIELDS is when CURRENT isn't that first, RULES aside", () -> {
      for (int current : new int[] {1, 3000, 4201, 20000}) {
        PackWatch x = made.get();
        int yields = x.yields(current);
        x.unrule();
        set(x, 20, -current);
        int first = NONE;
        for (int s = 1; s <= 100 && first == NONE; s++) if (second(x).is(4) != -current) first = s;
        due("yields(" + current + ")", yields > 100 ? NONE : yields, first);
      }
    });
    test(name + ": 66: BESTMODE by the spread behind n SECONDS", () -> {
      for (int n : new int[] {1, 2, 40}) {
        int best = NONE;
        int least = MAX;
        for (int mode = 0; mode < 3; mode++) {
          PackWatch x = set(made.get(), 11, mode);
          x.run(n);
          if (x.spread() < least && x.is(0) > 0) {
            least = x.spread();
            best = mode;
          }
        }
        due("bestMode(" + n + ")", made.get().bestMode(n), best);
      }
    });
    test(name + ": 63: BESTBAND by the spread behind n SECONDS", () -> {
      for (int n : new int[] {1, 2, 40}) {
        PackWatch y = made.get();
        int spread = Math.max(0, y.foretold(n, 0) == 0 ? 0 : y.spread() - 1);
        int best = NONE;
        for (int band = 99; band >= 0 && best == NONE; band--) {
          PackWatch x = set(made.get(), 14, band);
          x.run(n);
          if (x.is(0) > 0 && x.spread() <= spread) best = band;
        }
        due("bestBand(" + n + ", " + spread + ")", y.bestBand(n, spread), best);
      }
    });
    test(name + ": 62: POWER is the greatest that goes through", () -> {
      for (int way = 0; way < 2; way++) {
        int n = 3;
        int power = made.get().power(way, n);
        if (made.get().is(1) != CLOSED) {
          due("power(" + way + ", " + n + ")", power, NONE);
          continue;
        }
        if (power != 0) due("power(" + way + ", " + n + ") goes through", goes(made, power, n), true);
        int beyond = power + (way == 0 ? 100 : -100);
        if (Math.abs(beyond) <= made.get().setting(4)) due("power(" + way + ", " + n + "): 100 more doesn't", goes(made, beyond, n), false);
      }
    });
  }
  static boolean goes(Supplier<PackWatch> made, int request, int n) {
    PackWatch x = made.get();
    x.unrule();
    set(x, 23, 0, 20, request);
    for (int s = 0; s < n; s++) if (x.run(1) > 0 || x.is(4) != request) return false;
    return true;
  }

  static void comesBack(String name, Supplier<PackWatch> made) {
    test(name + ": 68: BACK: all is so again, whatever stood there between", () -> {
      Supplier<PackWatch> back = () -> {
        PackWatch x = made.get();
        x.image();
        otherwise(x);
        x.foretold(9, 0);
        x.back();
        return x;
      };
      alike(name + ", BACK", back, made);
      stepsAlike(name + ", BACK", back, made);
    });
    test(name + ": 68: BACK twice", () -> {
      Supplier<PackWatch> back = () -> {
        PackWatch x = made.get();
        x.image();
        otherwise(x);
        x.back();
        x.run(17);
        x.cell(9999, 1000, 99);
        x.run(3);
        x.back();
        return x;
      };
      alike(name + ", BACK twice", back, made);
      stepsAlike(name + ", BACK twice", back, made);
    });
    test(name + ": 20: what is taken back is as it was, whatever was foretold between", () -> {
      Supplier<PackWatch> back = () -> {
        PackWatch x = made.get();
        x.image();
        int steps = x.steps();
        x.run(30);
        x.charge(0, 5);
        x.run(3);
        x.cell(9999, 1000, 99);
        x.zone(1200, 5);
        set(x, 20, 900);
        x.run(30);
        x.foretold(9, 0);
        while (x.steps() > steps && x.steps() > 0) x.undo();
        if (steps == 20) x.back();
        return x;
      };
      alike(name + ", taken back", back, made);
    });
    test(name + ": two objects have nothing in common", () -> {
      PackWatch other = made.get();
      PackWatch x = made.get();
      otherwise(other);
      PackWatch y = made.get();
      for (int what = 0; what < 16; what++) due("is(" + what + ")", x.is(what), y.is(what));
      for (int what = 0; what < 30; what++) due("setting(" + what + ")", x.setting(what), y.setting(what));
      for (int what = 0; what < 16; what++) due("foretold(5, " + what + ")", x.foretold(5, what), y.foretold(5, what));
    });
  }

  // ---- one by one

  /** A CELL in the place of one that was taken back is wholly as told. */
  static void newCells() {
    test("2: a CELL told in the place of one that is gone", () -> {
      PackWatch x = otherwise(rich());
      set(x, 6, 250);
      x.back();
      due("CELLS", x.is(0), 0);
      x.cell(1000, 500, 7);
      int[] want = {1000, 1800000, 7, 250, 500, 3700, 3700, 500, 1800000, 0, 1000, NONE, NONE, 0, 1, NO_OHMS, NONE, 0, 0};
      for (int what = 0; what < want.length; what++) due("of(0, " + what + ")", x.of(0, what), want[what]);
      for (int k = 0; k <= 10; k++) due("cycles(0, " + k + ")", x.cycles(0, k), 0);
      due("turn(0, 0)", x.turn(0, 0), 500);
      due("turn(0, 1)", x.turn(0, 1), NONE);
    });
    test("2: SECONDS HELD BACK of one that is gone", () -> {
      PackWatch x = set(closed(1000, 500, 0), 0, 3710, 20, 9999);
      x.run(7);
      due("HELD BACK", x.of(0, 18), 7);
      x.back();
      x.cell(1000, 500, 0);
      due("HELD BACK", x.of(0, 18), 0);
    });
    test("23: MEASURED, GUESS: no SECOND, no RESTING since it was told", () -> {
      PackWatch x = second(set(wide(100, 500, 9), 20, 3600));
      x.back();
      x.cell(100, 900, 9);
      x.stuck(0, 1);
      x.stuck(2, 1);
      set(x, 19, 1);
      second(set(x, 20, 5000));
      due("MEASURED", x.of(0, 15), NO_OHMS);
      second(set(x, 20, 0));
      due("GUESS", x.of(0, 16), NONE);
    });
  }

  static void keptAsItWas() {
    test("20: the first SECOND taken back: the greatest, the least VOLTS are none", () -> {
      PackWatch x = second(cells(100, 500, 5));
      due("the greatest", x.of(0, 11), 3700);
      x.undo();
      due("the greatest", x.of(0, 11), NONE);
      due("the least", x.of(0, 12), NONE);
      x.charge(0, 0);
      second(x);
      due("the greatest", x.of(0, 11), 3000);
      due("the least", x.of(0, 12), 3000);
    });
    test("20: the first SECOND taken back: none since it was told", () -> {
      PackWatch x = wide(100, 500, 0);
      x.cell(100, 500, 9);
      second(x);
      x.undo();
      second(set(x, 20, 1000));
      due("MEASURED", x.of(1, 15), NO_OHMS);
    });
    test("20: the CURRENT of the SECOND ahead is as it was", () -> {
      PackWatch x = second(set(wide(9999, 500, 9), 20, 5000));
      x.charge(0, 18020000);
      second(x);
      int measured = x.of(0, 15);
      second(set(x, 20, 9000));
      x.undo();
      second(set(x, 20, 5500));
      due("500 away from 5000: as it was", x.of(0, 15), measured);
    });
    test("20: RESTING taken back: there was none", () -> {
      PackWatch x = set(cells(100, 500, 0), 19, 1);
      second(x);
      x.undo();
      x.charge(0, 0);
      second(x);
      due("GUESS", x.of(0, 16), NONE);
    });
    test("57: FORETOLD with ZONES and RULES as they are", () -> {
      PackWatch x = set(wide(1000, 500, 0), 20, 9000);
      x.zone(250, 700);
      x.rule(4, true, 699, 20, 300);
      due("CURRENT", x.foretold(1, 4), 700);
      due("CURRENT", x.foretold(2, 4), 300);
    });
    test("68: ZONES, RULES, PIECES, PRICES of THE IMAGE, others told in their place", () -> {
      PackWatch x = new PackWatch();
      x.zone(1, 10);
      x.rule(1, true, 2, 14, 3);
      x.piece(4, 5);
      x.price(6, 7);
      x.image();
      for (int i = 0; i < 4; i++) x.undo();
      x.zone(2, 20);
      x.rule(2, false, 3, 15, 4);
      x.piece(5, 6);
      x.price(6, 8);
      x.back();
      due("ZONE", x.zoneOf(0, 0) * 100 + x.zoneOf(0, 1), 110);
      int[] rule = {1, 1, 2, 14, 3};
      for (int what = 0; what < 5; what++) due("RULE " + what, x.ruleOf(0, what), rule[what]);
      due("PIECE", x.driveOf(0, 0) * 100 + x.driveOf(0, 1), 405);
      due("PRICE", x.cheapest(24, 1, 0), 7);
    });
  }

  static void allAlike() {
    test("31, 49: all full, all empty: the spread is 0, nothing is to be SHUNTED", () -> {
      for (int part : new int[] {0, 1000}) {
        PackWatch x = alike(16, 100, part, 0);
        due("spread() at " + part, x.spread(), 0);
        due("need(3) at " + part, x.need(3), 0);
        due("module(2, 2) at " + part, x.module(2, 2), 0);
        due("scatter() at " + part, x.scatter(), 0);
        due("middle() at " + part, x.middle(), part);
        due("halves(1) at " + part, alike(8, 100, part, 0).halves(1), 0);
        due("flow(14) at " + part, x.flow(14), 0);
        due("bestMode(1) at " + part, x.bestMode(1), 0);
      }
    });
    test("43: one short of a whole one", () -> {
      due("1573943 * 3193", charges(cells(9999, 0, 0), 1573943).energy(), 1395);
      due("9154487 * 3577", charges(cells(9999, 0, 0), 9154487).energy(), 9095);
    });
    test("41: no HOURS in no stretch is for others, too", () -> refused("cheapest(0, n, 0)", PackWatch::new, NONE, (x, n) -> x.cheapest(0, n, 0), 0, -1, 13, MIN, MAX));
    test("41: no HOURS with what for others", () -> refused("cheapest(0, 1, n)", PackWatch::new, NONE, (x, n) -> x.cheapest(0, 1, n), -1, 2, MIN, MAX));
  }

  public static void main(String[] args) {
    for (int i = 0; i < PACKS.size(); i++) {
      comes(NAMES.get(i), PACKS.get(i));
      comesBack(NAMES.get(i), PACKS.get(i));
    }
    newCells();
    keptAsItWas();
    allAlike();
    finish("ForetoldTest");
  }
}
