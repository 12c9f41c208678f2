/**
 * Each argument of each call of the face, promise by promise: at the bounds that the document names, one within,
 * one beyond, and at the least and the greatest int; every try has an object of its own.
 */
public final class BoundsOfCallsTest extends Due {
  static final int[] REST = {3000, 3450, 3550, 3600, 3650, 3700, 3760, 3840, 3930, 4040, 4200};

  /** Three cells, no SECOND yet. */
  static PackWatch three() { return cells(1000, 500, 10, 2000, 600, 0, 500, 250, 5); }
  static PackWatch sixteen() {
    PackWatch x = new PackWatch();
    for (int i = 0; i < 16; i++) x.cell(100 + i, 10 * i, i);
    return x;
  }
  /** All FAULTS but PRECHARGE latched: MUCH and COLD in the SECOND 12, the others in 13 .. 15; OPEN, TIME 15. */
  static PackWatch allButPrecharge() {
    PackWatch x = closed(1000, 500, 0, 1000, 400, 0);
    x.warm(0, 0);
    x.warm(1, 0);
    set(x, 6, -400, 4, 100, 20, 101);
    x.run(1);
    due("COLD, MUCH", x.is(5), 8 + 16);
    set(x, 0, 3650, 1, 3700, 2, 200, 9, 0, 17, 1, 28, 1, 29, 0);
    x.warm(1, 1200);
    x.stuck(1, 1);
    x.run(3);
    due("all but 32", x.is(5), 2047 - 32);
    return x;
  }
  /** PRECHARGE alone latched, at TIME 1. */
  static PackWatch tooSlow() {
    PackWatch x = cells(1000, 500, 0);
    set(x, 8, 9999);
    x.close();
    x.run(1);
    due("PRECHARGE", x.is(5), 32);
    return x;
  }
  static PackWatch rules(int count) {
    PackWatch x = new PackWatch();
    for (int i = 0; i < count; i++) x.rule(i, i % 2 == 0, 10 * i, 14, 100 + i);
    return x;
  }
  static PackWatch zones(int count) {
    PackWatch x = new PackWatch();
    for (int i = 0; i < count; i++) x.zone(100 * i, 1000 + i);
    return x;
  }
  static PackWatch pieces(int count) {
    PackWatch x = new PackWatch();
    for (int i = 0; i < count; i++) x.piece(500 + i, 1 + i);
    return x;
  }

  static void toldCells() {
    test("2: CAPACITY 100 .. 9999", () -> argument("cell(n, 500, 5)", PackWatch::new, 100, 9999, NONE, n -> n,
        (x, n) -> x.cell(n, 500, 5) == NONE ? NONE : x.of(0, 0)));
    test("2: PART told 0 .. 1000", () -> argument("cell(1000, n, 5)", PackWatch::new, 0, 1000, NONE, n -> n * 3600L,
        (x, n) -> x.cell(1000, n, 5) == NONE ? NONE : x.of(0, 1)));
    test("2: OHMS 0 .. 99", () -> argument("cell(1000, 500, n)", PackWatch::new, 0, 99, NONE, n -> n,
        (x, n) -> x.cell(1000, 500, n) == NONE ? NONE : x.of(0, 2)));
    test("2: NONE for others", () -> {
      refused("CELLS behind a refused CAPACITY", PackWatch::new, 0, (x, n) -> x.cell(n, 500, 5) - NONE + x.is(0), 99, 10000, MIN, MAX);
      refused("CELLS behind a refused PART", PackWatch::new, 0, (x, n) -> x.cell(100, n, 5) - NONE + x.is(0), -1, 1001, MIN, MAX);
      refused("CELLS behind refused OHMS", PackWatch::new, 0, (x, n) -> x.cell(100, 5, n) - NONE + x.is(0), -1, 100, MIN, MAX);
    });
    test("3: of a CELL", () -> argument("charge(n, 7)", BoundsOfCallsTest::three, 0, 2, 0, n -> 7,
        (x, n) -> x.charge(n, 7) ? x.of(n, 1) : 0));
    test("3: CHARGE 0 .. full, CAPACITY 100", () -> argument("charge(0, n)", () -> cells(100, 500, 0), 0, 360000, -5, n -> n,
        (x, n) -> x.charge(0, n) ? x.of(0, 1) : -5));
    test("3: CHARGE 0 .. full, CAPACITY 9999", () -> argument("charge(0, n)", () -> cells(9999, 500, 0), 0, 35996400, -5, n -> n,
        (x, n) -> x.charge(0, n) ? x.of(0, 1) : -5));
    test("3: full is by the CAPACITY that is left", () -> argument("charge(0, n)", () -> {
      PackWatch x = closed(101, 500, 0);
      set(x, 24, 1, 20, 3600);
      x.run(1);
      due("CAPACITY", x.of(0, 0), 100);
      return x;
    }, 0, 360000, -5, n -> n, (x, n) -> x.charge(0, n) ? x.of(0, 1) : -5));
    test("4: of a CELL", () -> argument("warm(n, 7)", BoundsOfCallsTest::three, 0, 2, 0, n -> 7,
        (x, n) -> x.warm(n, 7) ? x.of(n, 3) : 0));
    test("4: WARMTH -400 .. 1200", () -> argument("warm(2, n)", BoundsOfCallsTest::three, -400, 1200, BAD, n -> n,
        (x, n) -> x.warm(2, n) ? x.of(2, 3) : BAD));
  }

  static void toldOthers() {
    test("5: A SETTING 0 .. 29", () -> argument("set(n, its first)", PackWatch::new, 0, 29, 0, n -> 1,
        (x, n) -> num(x.set(n, n >= 0 && n < 30 ? FIRST[n] : 1))));
    for (int w = 0; w < 30; w++) {
      int what = w;
      test("SETTINGS: " + what + " is " + LEAST[what] + " .. " + MOST[what], () ->
          argument("set(" + what + ", n)", PackWatch::new, LEAST[what], MOST[what], BAD, n -> n,
              (x, n) -> x.set(what, n) ? x.setting(what) : BAD));
      test("SETTINGS: " + what + " at first", () -> due("setting(" + what + ")", new PackWatch().setting(what), FIRST[what]));
      test("24: a RULE's value as set() has it: " + what, () ->
          argument("rule(6, true, 5, " + what + ", n)", PackWatch::new, LEAST[what], MOST[what], BAD, n -> n,
              (x, n) -> x.rule(6, true, 5, what, n) == NONE ? BAD : x.ruleOf(0, 4)));
    }
    test("6: n 1 .. 300", () -> argument("run(n)", PackWatch::new, 1, 300, NONE, n -> n,
        (x, n) -> x.run(n) == NONE ? NONE : x.is(6)));
    test("6: how many FAULTS were latched", () -> argument("run(n)", () -> set(new PackWatch(), 28, 299, 29, 0), 1, 300, NONE,
        n -> n == 300 ? 2 : 1, PackWatch::run));
    test("9: a FAULT 0 .. 10", () -> {
      argument("reset(n)", () -> at(calm(allButPrecharge()), 30), 0, 10, -7,
          n -> n == 5 ? -7 : 2047 - 32 - (1 << n), (x, n) -> x.reset(n) ? x.is(5) : -7);
      argument("reset(n)", () -> at(tooSlow(), 11), 5, 5, -7, n -> 0, (x, n) -> x.reset(n) ? x.is(5) : -7);
    });
    test("10: A CONTACTOR 0 .. 2", () -> argument("stuck(n, 1)", PackWatch::new, 0, 2, 0, n -> 1 << n,
        (x, n) -> x.stuck(n, 1) ? x.is(14) : 0));
    test("10: so 0 .. 2", () -> argument("stuck(1, n)", () -> { PackWatch x = new PackWatch(); x.stuck(1, 1); return x; }, 0, 2, NONE, n -> n,
        (x, n) -> x.stuck(1, n) ? x.stuckAs(1) : NONE));
    test("11: WARMTH -400 .. 1200", () -> argument("zone(n, 5)", PackWatch::new, -400, 1200, BAD, n -> n,
        (x, n) -> x.zone(n, 5) == NONE ? BAD : x.zoneOf(0, 0)));
    test("11: above the latest one's", () -> argument("zone(n, 5)", () -> zones(3), 201, 1200, NONE, n -> 4, (x, n) -> x.zone(n, 5)));
    test("11: CURRENT 0 .. 99999", () -> argument("zone(5, n)", PackWatch::new, 0, 99999, NONE, n -> n,
        (x, n) -> x.zone(5, n) == NONE ? NONE : x.zoneOf(0, 1)));
    test("13: HOURS 0 .. 23", () -> argument("price(n, 0)", () -> prices(9), 0, 23, 0, n -> 1 << n,
        (x, n) -> x.price(n, 0) ? x.cheapest(1, 1, 1) : 0));
    test("13: a PRICE 0 .. 999", () -> argument("price(7, n)", () -> prices(999), 0, 999, NONE, n -> 23 * 999 + n,
        (x, n) -> x.price(7, n) ? x.cheapest(24, 1, 0) : NONE));
    test("14: A MARK 0 .. 2", () -> argument("mark(n)", BoundsOfCallsTest::three, 0, 2, BAD, n -> 250,
        (x, n) -> x.mark(n) ? x.since(n, 2, 0) : BAD));
    test("15: a REQUEST -99999 .. 99999", () -> argument("piece(n, 3)", PackWatch::new, -99999, 99999, BAD, n -> n,
        (x, n) -> x.piece(n, 3) == NONE ? BAD : x.driveOf(0, 0)));
    test("15: SECONDS 1 .. 99", () -> argument("piece(5, n)", PackWatch::new, 1, 99, NONE, n -> n,
        (x, n) -> x.piece(5, n) == NONE ? NONE : x.driveOf(0, 1)));
    test("16: a what 0 .. 13", () -> argument("rule(n, true, 5, 14, 7)", PackWatch::new, 0, 13, NONE, n -> n,
        (x, n) -> x.rule(n, true, 5, 14, 7) == NONE ? NONE : x.ruleOf(0, 0)));
    test("16: a limit is free", () -> {
      for (int n : new int[] {MIN, MIN + 1, -1, 0, 1, MAX - 1, MAX}) {
        PackWatch x = new PackWatch();
        due("rule(0, true, " + n + ", 14, 7)", x.rule(0, true, n, 14, 7), 1);
        due("the limit", x.ruleOf(0, 2), n);
      }
    });
    test("16: a SETTING 0 .. 29", () -> argument("rule(0, true, 5, n, its first)", PackWatch::new, 0, 29, NONE, n -> n,
        (x, n) -> x.rule(0, true, 5, n, n >= 0 && n < 30 ? FIRST[n] : 1) == NONE ? NONE : x.ruleOf(0, 3)));
  }

  /** So that no FAULT is so any more. */
  static PackWatch calm(PackWatch x) {
    set(x, 0, 4200, 1, 2900, 2, 900, 9, 9999, 17, 2000, 28, 0, 29, 1, 20, 0, 6, 250);
    x.warm(1, 250);
    x.stuck(1, 0);
    return x;
  }
  static PackWatch prices(int each) {
    PackWatch x = new PackWatch();
    for (int h = 0; h < 24; h++) x.price(h, each);
    return x;
  }

  static void toldOfAll() {
    int[] is = {3, 0, 0, 3700 + 3760 + 3575, 0, 0, 7, 250, 7, 0, 0, 0, 2, 0, 2, 1};
    test("21: is 0 .. 15, -1000000000 for others", () -> argument("is(n)", () -> {
      PackWatch x = three();
      x.piece(1, 1);
      x.piece(2, 2);
      x.zone(5, 5);
      x.run(7);
      x.stuck(1, 1);
      return x;
    }, 0, 15, BAD, n -> is[n], PackWatch::is));
    test("22: setting 0 .. 29, -1000000000 for others", () -> argument("setting(n)", PackWatch::new, 0, 29, BAD, n -> FIRST[n], PackWatch::setting));
    int[] capacities = {1000, 2000, 500};
    test("23: Of a CELL, -1000000000 for others", () -> argument("of(n, 0)", BoundsOfCallsTest::three, 0, 2, BAD, n -> capacities[n], (x, n) -> x.of(n, 0)));
    test("23: CELLS are 16 at most", () -> argument("of(n, 0)", BoundsOfCallsTest::sixteen, 0, 15, BAD, n -> 100 + n, (x, n) -> x.of(n, 0)));
    int[] of = {1000, 1800000, 10, 250, 500, 3700, 3700, 500, 1800000, 0, 1000, NONE, NONE, 0, 1, NO_OHMS, NONE, 0, 0};
    test("23: 0 .. 18, -1000000000 for others", () -> argument("of(0, n)", BoundsOfCallsTest::three, 0, 18, BAD, n -> of[n], (x, n) -> x.of(0, n)));
    test("24: how many (i NONE); the i-th; -1000000000 if there is none such", () -> {
      argument("ruleOf(n, 2)", () -> rules(8), -1, 7, BAD, n -> n == NONE ? 8 : 10 * n, (x, n) -> x.ruleOf(n, 2));
      argument("ruleOf(n, 2)", () -> rules(1), -1, 0, BAD, n -> n == NONE ? 1 : 0, (x, n) -> x.ruleOf(n, 2));
    });
    int[] rule = {3, 0, 30, 14, 103};
    test("24: 0 .. 4, -1000000000 for others", () -> argument("ruleOf(3, n)", () -> rules(8), 0, 4, BAD, n -> rule[n], (x, n) -> x.ruleOf(3, n)));
    test("25: MODULES 0 .. 3: four CELLS each", () -> argument("module(n, 3)", BoundsOfCallsTest::sixteen, 0, 3, BAD, n -> 4, (x, n) -> x.module(n, 3)));
    int[] module = {3700 + 3760 + 3575, 250, 350, 3};
    test("25: 0 .. 3, -1000000000 for others", () -> argument("module(0, n)", BoundsOfCallsTest::three, 0, 3, BAD, n -> module[n], (x, n) -> x.module(0, n)));
    test("26: the i-th, -1000000000 if there is none such", () -> argument("zoneOf(n, 0)", () -> zones(6), 0, 5, BAD, n -> 100 * n, (x, n) -> x.zoneOf(n, 0)));
    test("26: 0 the WARMTH, 1 the CURRENT, -1000000000 for others", () ->
        argument("zoneOf(4, n)", () -> zones(6), 0, 1, BAD, n -> n == 0 ? 400 : 1004, (x, n) -> x.zoneOf(4, n)));
    test("27: of a CELL, NONE for others", () -> argument("cycles(n, 0)", BoundsOfCallsTest::three, 0, 2, NONE, n -> 0, (x, n) -> x.cycles(n, 0)));
    test("27: k 0 .. 10, NONE for others", () -> argument("cycles(0, n)", BoundsOfCallsTest::manyCycles, 0, 10, NONE, n -> n + 1, (x, n) -> x.cycles(0, n)));
    int[] firstTurns = {500, 600, 250};
    test("28: of a CELL, NONE for others", () -> argument("turn(n, 0)", BoundsOfCallsTest::three, 0, 2, NONE, n -> firstTurns[n], (x, n) -> x.turn(n, 0)));
    int[] turns = {500, 700, 300, 800, 200};
    test("28: the i-th from the eldest on, NONE: there is none", () -> argument("turn(0, n)", () -> turning(turns), 0, 4, NONE, n -> turns[n], (x, n) -> x.turn(0, n)));
    test("29: a CONTACTOR, NONE for others", () -> argument("stuckAs(n)", () -> {
      PackWatch x = new PackWatch();
      x.stuck(0, 2);
      x.stuck(2, 1);
      return x;
    }, 0, 2, NONE, n -> n == 0 ? 2 : n == 1 ? 0 : 1, PackWatch::stuckAs));
    int[] needs = {(500 - 250) * 3600 / 100, (600 - 250) * 7200 / 100, 0};
    test("31: of a CELL, NONE for others", () -> argument("need(n)", BoundsOfCallsTest::three, 0, 2, NONE, n -> needs[n], PackWatch::need));
  }

  /** Of k hundreds k and 1 CYCLES each, at the PART 1000 behind them. */
  static PackWatch manyCycles() {
    PackWatch x = cells(100, 0, 0);
    x.charge(0, 360000);
    x.run(1);
    for (int k = 0; k <= 10; k++) {
      for (int i = 0; i <= k; i++) {
        x.charge(0, k == 10 ? 0 : (1000 - 100 * k - 50) * 360);
        x.run(1);
        x.charge(0, 360000);
        x.run(1);
      }
    }
    return x;
  }
  static PackWatch turning(int... parts) {
    PackWatch x = cells(100, parts[0], 0);
    for (int i = 1; i < parts.length; i++) {
      x.charge(0, parts[i] * 360);
      x.run(1);
    }
    return x;
  }

  static void toldOfKept() {
    test("32: how many (i NONE); the i-th from the eldest on; -1000000000 if there is none such", () -> {
      argument("trace(n, 1)", () -> traced(40), -1, 31, BAD, n -> n == NONE ? 32 : n == 31 ? 3760 : 3700, (x, n) -> x.trace(n, 1));
      argument("trace(n, 1)", () -> traced(1), -1, 0, BAD, n -> n == NONE ? 1 : 3760, (x, n) -> x.trace(n, 1));
    });
    int[] line = {1000, 3700 + 10 + 3760, 100};
    test("32: 0 CURRENT, 1 PACK, 2 the spread, -1000000000 for others", () -> argument("trace(11, n)", () -> {
      PackWatch x = closed(1000, 500, 10, 1000, 600, 0);
      set(x, 20, 1000);
      x.run(2);
      return x;
    }, 0, 2, BAD, n -> line[n], (x, n) -> x.trace(11, n)));
    int[] culprits = {1, 0, 1, 0};
    test("33: a FAULT 0 .. 3, NONE for others", () -> argument("culprit(n)", () -> {
      PackWatch y = closed(1000, 300, 0, 1000, 600, 0);
      set(y, 6, -400, 20, 100);
      y.warm(0, 0);
      y.run(1);
      set(y, 0, 3700, 1, 3700, 20, 0);
      y.warm(1, 700);
      y.run(1);
      return y;
    }, 0, 3, NONE, n -> culprits[n], PackWatch::culprit));
    test("34: a MARK, -1000000000 for others", () -> argument("since(n, 1, 0)", () -> marked(3), 0, 2, BAD, n -> 600, (x, n) -> x.since(n, 1, 0)));
    int[] parts = {500, 600, 250};
    test("34: of a CELL, -1000000000 for others", () -> argument("since(1, n, 0)", () -> marked(3), 0, 2, BAD, n -> parts[n], (x, n) -> x.since(1, n, 0)));
    test("34: 0 .. 3, -1000000000 for others", () -> {
      int[] since = {600, -600, 0, 4};
      argument("since(1, 1, n)", () -> {
        PackWatch x = marked(3);
        x.charge(1, 0);
        x.run(4);
        return x;
      }, 0, 3, BAD, n -> since[n], (x, n) -> x.since(1, 1, n));
    });
    test("34: -1000000000 for a CELL told behind it", () -> argument("since(0, n, 0)", () -> {
      PackWatch x = marked(3);
      x.cell(100, 900, 0);
      return x;
    }, 0, 2, BAD, n -> parts[n], (x, n) -> x.since(0, n, 0)));
    test("35: the i-th, NONE: there is none", () -> argument("rank(n)", BoundsOfCallsTest::sixteen, 0, 15, NONE, n -> 15 - n, PackWatch::rank));
    test("39: i below the last CELL, -1000000000 for others", () -> argument("flow(n)", () -> alike(16, 1000, 500, 0), 0, 14, BAD, n -> 0, PackWatch::flow));
    test("40: 0 bits, 1 by how much, NONE for others", () -> argument("halves(n)", () -> alike(4, 1000, 500, 0), 0, 1, NONE, n -> n == 0 ? 3 : 0, PackWatch::halves));
    test("41: k 0 .. 24, NONE for others", () -> argument("cheapest(n, 1, 0)", () -> prices(7), 0, 24, NONE, n -> 7L * n, (x, n) -> x.cheapest(n, 1, 0)));
    test("41: m 1 .. 12, NONE for others", () -> argument("cheapest(12, n, 0)", () -> {
      PackWatch x = new PackWatch();
      for (int h = 1; h < 24; h += 2) x.price(h, 100);
      return x;
    }, 1, 12, NONE, n -> dearIn(n), (x, n) -> x.cheapest(12, n, 0)));
    test("41: what 0, 1, NONE for others", () -> argument("cheapest(2, 1, n)", () -> prices(7), 0, 1, NONE, n -> n == 0 ? 14 : 3, (x, n) -> x.cheapest(2, 1, n)));
    test("42: a PART 0 .. 1000, NONE for others", () -> argument("hours(n, 1)", () -> cells(1000, 0, 0), 0, 1000, NONE, n -> n, (x, n) -> x.hours(n, 1)));
    test("42: a CURRENT 1 .. 99999, NONE for others", () -> argument("hours(1000, n)", () -> cells(9999, 0, 0), 1, 99999, NONE,
        n -> (9999 + n - 1) / n, (x, n) -> x.hours(1000, n)));
    test("44: a PART 0 .. 1000, NONE for others", () -> argument("below(n)", () -> cells(100, 0, 0, 100, 998, 0, 100, 999, 0), 0, 1000, NONE,
        n -> n == 0 ? 0 : n == 999 ? 2 : n == 1000 ? 3 : 1, PackWatch::below));
    test("45: a PART 0 .. 1000, NONE for others", () -> argument("rest(n)", PackWatch::new, 0, 1000, NONE,
        n -> n == 0 ? 3000 : n == 1 ? 3004 : n == 999 ? 4198 : 4200, PackWatch::rest));
    test("46: VOLTS are free; 1000: none", () -> {
      int[] volts = {MIN, MIN + 1, -1, 0, 1, 2999, 3000, 3001, 4198, 4199, 4200, 4201, MAX - 1, MAX};
      int[] by = {0, 0, 0, 0, 0, 0, 0, 1, 999, 1000, 1000, 1000, 1000, 1000};
      for (int i = 0; i < volts.length; i++) due("partBy(" + volts[i] + ")", new PackWatch().partBy(volts[i]), by[i]);
    });
  }

  /** 12 hours in n stretches, each second hour dear: a stretch of 2 i and 1 hours has i of the dear ones, one of 2 i, too. */
  static long dearIn(int n) {
    return (12 - n / 2 * 2) / 2 * 100L;
  }
  /** PACK is 3700 in each SECOND so far, but 3760 in the latest. */
  static PackWatch traced(int time) {
    PackWatch x = at(cells(1000, 500, 0), time - 1);
    x.charge(0, 2160000);
    x.run(1);
    return x;
  }
  static PackWatch marked(int marks) {
    PackWatch x = three();
    for (int m = 0; m < marks; m++) x.mark(m);
    return x;
  }

  static void toldOfPack() {
    test("47: into the CELLS (0), out of them (1), NONE for others", () -> argument("limit(n)", () -> set(three(), 5, 1), 0, 1, NONE,
        n -> n == 0 ? 4200 - 3760 : 3575 - 2900, PackWatch::limit));
    test("48: into (0), out of (1), NONE for others", () -> argument("worst(n)", BoundsOfCallsTest::three, 0, 1, NONE,
        n -> n == 0 ? 1 : 2, PackWatch::worst));
    test("50: a FAULT 0 .. 10, False for others", () -> {
      argument("mayReset(n)", () -> at(calm(allButPrecharge()), 30), 0, 10, 0, n -> n == 5 ? 0 : 1, (x, n) -> num(x.mayReset(n)));
      argument("mayReset(n)", () -> at(tooSlow(), 11), 5, 5, 0, n -> 1, (x, n) -> num(x.mayReset(n)));
    });
    test("50: a number whose bit goes round is for others", () ->
        refused("mayReset(n)", () -> at(calm(allButPrecharge()), 30), 0, (x, n) -> num(x.mayReset(n)), 32, 33, 42, -32, -22, 64, MIN + 1));
    test("9: a number whose bit goes round is for others", () ->
        refused("reset(n)", () -> at(calm(allButPrecharge()), 30), 0, (x, n) -> num(x.reset(n)), 32, 33, 42, -32, -22, 64, MIN + 1));
    int[] whens = {15, 15, 15, 12, 12, NONE, 15, 15, 15, 15, 15};
    test("51: WHEN of a FAULT 0 .. 10, NONE for others", () -> {
      argument("when(n)", () -> calm(allButPrecharge()), 0, 10, NONE, n -> whens[n], PackWatch::when);
      argument("when(n)", BoundsOfCallsTest::tooSlow, 5, 5, NONE, n -> 1, PackWatch::when);
    });
    int[] faults = {3, 4, 0, 1, 2, 7, 9, 10, 8, 6};
    int[] times = {12, 12, 13, 13, 13, 13, 13, 13, 14, 15};
    test("52: how many lines (i NONE); the i-th from the eldest on; -2 if there is none such", () -> {
      argument("book(n, 1)", BoundsOfCallsTest::allButPrecharge, -1, 9, -2, n -> n == NONE ? 10 : faults[n], (x, n) -> x.book(n, 1));
      argument("book(n, 0)", BoundsOfCallsTest::allButPrecharge, -1, 9, -2, n -> n == NONE ? 10 : times[n], (x, n) -> x.book(n, 0));
      argument("book(n, 0)", () -> booked(24), -1, 23, -2, n -> n == NONE ? 24 : 1 + 2 * n, (x, n) -> x.book(n, 0));
    });
    test("52: 0 TIME, 1 the FAULT, -2 for others", () -> argument("book(9, n)", BoundsOfCallsTest::allButPrecharge, 0, 1, -2,
        n -> n == 0 ? 15 : 6, (x, n) -> x.book(9, n)));
    test("53: PIECES, -1000000000 if there is none such", () -> {
      argument("driveOf(n, 0)", () -> pieces(24), 0, 23, BAD, n -> 500 + n, (x, n) -> x.driveOf(n, 0));
      argument("driveOf(n, 1)", () -> pieces(1), 0, 0, BAD, n -> 1, (x, n) -> x.driveOf(n, 1));
    });
    test("53: 0 REQUEST, 1 SECONDS, -1000000000 for others", () -> argument("driveOf(7, n)", () -> pieces(24), 0, 1, BAD,
        n -> n == 0 ? 507 : 8, (x, n) -> x.driveOf(7, n)));
    test("54: come into (0), out of (1), NONE for others", () -> argument("room(n)", BoundsOfCallsTest::three, 0, 1, NONE,
        n -> n == 0 ? 750 * 1800 : 250 * 1800, PackWatch::room));
  }

  /** LOOSE in each second SECOND, reset behind the one between: so many lines, of TIME 1, 3, .. */
  static PackWatch booked(int lines) {
    PackWatch x = set(new PackWatch(), 21, 1);
    for (int i = 0; i < lines; i++) {
      set(x, 29, 0);
      x.run(1);
      set(x, 29, 1);
      x.run(1);
      due("reset(10)", x.reset(10), true);
    }
    return x;
  }

  static void foretelling() {
    int[] is = {1, 2, 3710, 3710, 1000, 0, 13, 250, 0, 0, 0, 0, 0, 0, 5, 0};
    test("57: behind n 1 .. 300, -1000000000 for others", () -> argument("foretold(n, 6)", () -> going(1000), 1, 300, BAD, n -> 11 + n, (x, n) -> x.foretold(n, 6)));
    test("57: as is(), -1000000000 for others", () -> argument("foretold(2, n)", () -> going(1000), 0, 15, BAD, n -> is[n], (x, n) -> x.foretold(2, n)));
    test("58: behind n 1 .. 300, -1000000000 for others", () -> argument("foretoldOf(n, 0, 1)", () -> going(1000), 1, 300, BAD,
        n -> 1800000 + 1000L * n, (x, n) -> x.foretoldOf(n, 0, 1)));
    int[] charges = {1802000, 1902000};
    test("58: of a CELL, -1000000000 for others", () -> argument("foretoldOf(2, n, 1)", () -> {
      PackWatch x = closed(1000, 500, 0, 1000, 500, 0);
      x.charge(1, 1900000);
      return set(x, 20, 1000);
    }, 0, 1, BAD, n -> charges[n], (x, n) -> x.foretoldOf(2, n, 1)));
    int[] of = {1000, 1802000, 10, 250, 500, 3700, 3710, 500, 1802000, 2000, 1000, 3710, 3700, 0, 1, 10, NONE, 2000, 0};
    test("58: as of(), -1000000000 for others", () -> argument("foretoldOf(2, 0, n)", () -> going(1000), 0, 18, BAD, n -> of[n], (x, n) -> x.foretoldOf(2, 0, n)));
    test("59: as is(), -1000000000 for others", () -> argument("driven(n)", () -> {
      PackWatch x = going(0);
      x.piece(500, 1);
      x.piece(1000, 1);
      return x;
    }, 0, 15, BAD, n -> n == 12 ? 2 : is[n], PackWatch::driven));
    test("61: n 1 .. 300, NONE for others", () -> argument("harm(n)", () -> set(going(0), 29, 0), 1, 300, NONE, n -> 10, PackWatch::harm));
    test("61: by n SECONDS", () -> argument("harm(n)", () -> {
      PackWatch x = set(going(0), 28, 299);
      x.hear();
      return x;
    }, 1, 300, NONE, n -> n == 300 ? 9 : NONE, PackWatch::harm));
    test("62: into (0), out of (1), NONE for others", () -> argument("power(n, 1)", () -> set(going(0), 4, 700), 0, 1, NONE,
        n -> n == 0 ? 700 : -700, (x, n) -> x.power(n, 1)));
    test("62: n 1 .. 60, NONE for others", () -> argument("power(0, n)", () -> set(going(0), 4, 700), 1, 60, NONE, n -> 700, (x, n) -> x.power(0, n)));
    test("63: n 1 .. 60, NONE for others", () -> argument("bestBand(n, 0)", () -> going(0), 1, 60, NONE, n -> 99, (x, n) -> x.bestBand(n, 0)));
    test("63: the spread 0 .. 1000, NONE for others", () -> argument("bestBand(1, n)", () -> going(0), 0, 1000, NONE, n -> 99, (x, n) -> x.bestBand(1, n)));
    test("63: the spread is so much or less", () -> argument("bestBand(1, n)", () -> cells(100, 500, 0, 100, 700, 0), 200, 1000, NONE, n -> 99, (x, n) -> x.bestBand(1, n)));
    test("64: a CURRENT 1 .. 99999, NONE for others", () -> argument("yields(n)", () -> set(going(0), 4, 1), 1, 99999, NONE,
        n -> n == 1 ? NONE : 1, PackWatch::yields));
    test("64: a CURRENT 1 .. 99999: CURRENT isn't that first", () -> argument("yields(n)", () -> cells(100, 500, 0), 1, 99999, NONE, n -> 1, PackWatch::yields));
    test("65: into (0), out of (1), NONE for others", () -> {
      argument("eta(n)", () -> cells(100, 0, 0, 100, 1000, 0), 0, 1, NONE, n -> 0, PackWatch::eta);
      argument("eta(n)", () -> charges(set(going(100), 17, 2000, 0, 4500, 1, 2000), 3599900), 0, 0, NONE, n -> 1, PackWatch::eta);
      argument("eta(n)", () -> charges(set(going(-100), 17, 2000, 0, 4500, 1, 2000), 100), 1, 1, NONE, n -> 1, PackWatch::eta);
    });
    test("66: n 1 .. 300, NONE for others", () -> argument("bestMode(n)", () -> going(0), 1, 300, NONE, n -> 0, PackWatch::bestMode));
  }

  /** CLOSED at TIME 11, one CELL of 1000, 500, 10. */
  static PackWatch going(int request) { return set(closed(1000, 500, 10), 20, request); }

  public static void main(String[] args) {
    toldCells();
    toldOthers();
    toldOfAll();
    toldOfKept();
    toldOfPack();
    foretelling();
    finish("BoundsOfCallsTest");
  }
}
