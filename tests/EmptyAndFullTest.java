import java.util.List;
import java.util.function.Supplier;

/** Each sentence that names what is empty or full: no CELLS, PIECES, ZONES, RULES, STEPS, MARK; a CELL full, empty; full lists. */
public final class EmptyAndFullTest extends Questions {
  static PackWatch wide(int... told) { return set(closed(told), 0, 4500, 1, 2000, 4, 99999, 5, 999); }
  static int[] rows(int... numbers) { return numbers; }

  // ---- no CELLS

  /** A question that answers the same without CELLS, whatever else is so. */
  static void none(String promise, long want, Ask ask) {
    test(promise + ": without CELLS", () -> {
      due("new", ask.of(new PackWatch()), want);
      due("at TIME 7", ask.of(at(new PackWatch(), 7)), want);
      due("with a FAULT", ask.of(second(set(new PackWatch(), 29, 0))), want);
      due("the CELL that was there is taken back", ask.of(takenBack()), want);
      due("the CELL that was there is gone by back()", ask.of(goneBack()), want);
    });
  }
  static PackWatch takenBack() {
    PackWatch x = cells(100, 500, 5);
    x.undo();
    return x;
  }
  static PackWatch goneBack() {
    PackWatch x = wide(100, 500, 5, 200, 600, 6);
    set(x, 20, 100);
    x.run(5);
    x.back();
    return x;
  }

  static void noCells() {
    none("21", 0, x -> x.is(0) + x.is(3));
    none("7", 0, x -> num(x.close()) + x.is(1));
    none("3", 0, x -> num(x.charge(0, 0)));
    none("4", 0, x -> num(x.warm(0, 0)));
    for (int w = 0; w < 19; w++) {
      int what = w;
      none("23, what " + w, BAD, x -> x.of(0, what));
      none("58, what " + w, BAD, x -> x.foretoldOf(3, 0, what));
    }
    for (int w = 0; w < 4; w++) {
      int what = w;
      none("25, what " + w, BAD, x -> x.module(0, what));
      none("34, what " + w, BAD, x -> {
        x.mark(0);
        return x.since(0, 0, what);
      });
    }
    none("27", NONE, x -> x.cycles(0, 0));
    none("28", NONE, x -> x.turn(0, 0));
    none("30", 0, PackWatch::warnings);
    none("30, though SPREAD less MARGIN is below 0", 0, x -> set(x, 17, 1, 26, 200).warnings());
    none("31", NONE, x -> x.need(0));
    none("35", NONE, x -> x.rank(0));
    none("36", NONE, PackWatch::middle);
    none("37", NONE, PackWatch::scatter);
    none("38", NONE, PackWatch::goal);
    none("39", BAD, x -> x.flow(0));
    none("39, below 0", BAD, x -> x.flow(-1));
    none("40", NONE, x -> x.halves(0));
    none("40", NONE, x -> x.halves(1));
    none("42", 0, x -> x.hours(1000, 1));
    none("43", 0, PackWatch::energy);
    none("44", 0, x -> x.below(1000));
    none("47", NONE, x -> x.limit(0));
    none("47", NONE, x -> x.limit(1));
    none("48", NONE, x -> x.worst(0));
    none("48", NONE, x -> x.worst(1));
    none("49", NONE, PackWatch::spread);
    none("54", NONE, x -> x.room(0));
    none("54", NONE, x -> x.room(1));
    none("55", 0, PackWatch::fullness);
    none("56", 0, PackWatch::off);
    for (int m = 0; m < 3; m++) {
      int mode = m;
      none("60, MODE " + m, 1, x -> set(x, 11, mode).bare());
    }
    none("62", NONE, x -> x.power(0, 1));
    none("63", NONE, x -> x.bestBand(1, 1000));
    none("64", 1, x -> x.yields(1));
    none("65", NONE, x -> x.eta(0));
    none("65", NONE, x -> x.eta(1));
    none("66", NONE, x -> x.bestMode(1));
    none("2: the first one is 0", 0, x -> x.cell(100, 500, 5));
    noCellsInSeconds();
  }

  static void noCellsInSeconds() {
    test("(7) without CELLS no FAULT is so by a CELL, nor APART", () -> {
      PackWatch x = set(new PackWatch(), 0, 3000, 1, 3700, 3, 200, 17, 1, 2, 250);
      due("run(300)", x.run(300), 0);
      due("TRACE: PACK", x.trace(31, 1), 0);
      due("TRACE: CURRENT", x.trace(31, 0), 0);
      due("CULPRIT of HIGH", x.culprit(0), NONE);
    });
    test("(7) HOT by the BOARD without CELLS", () -> {
      PackWatch x = second(set(new PackWatch(), 2, 249));
      due("FAULTS", x.is(5), 4);
      due("CULPRIT", x.culprit(2), NONE);
    });
    test("(1), (2) MINUS and PLUS WELDED without CELLS: the BUS is PACK, 0; LIMITS: MOST", () -> row("CURRENT by REQUEST, MOST 500", n -> {
      PackWatch x = set(new PackWatch(), 4, 500, 20, n);
      x.stuck(0, 1);
      x.stuck(2, 1);
      return second(x);
    }, x -> x.is(4) + 100000L * x.is(2), rows(-501, -500, -499, 0, 499, 500, 501), -500, -500, -499, 0, 499, 500, 500));
    test("(1) MINUS and PRE WELDED without CELLS: PACK has nothing more", () -> {
      PackWatch x = set(new PackWatch(), 7, 100);
      x.stuck(0, 1);
      x.stuck(1, 1);
      due("BUS", second(x).is(2), 0);
    });
    test("(4) without CELLS nothing is SHUNTED or MOVED", () -> row("sums by MODE", n -> at(set(new PackWatch(), 11, n, 14, 0), 10),
        x -> x.is(9) + x.is(10) + x.is(11) + x.is(13), rows(0, 1, 2), 0, 0, 0));
    test("(8) RULES without CELLS: CELLS, PACK are 0", () -> {
      PackWatch x = new PackWatch();
      x.rule(0, false, 1, 14, 5);
      x.rule(3, true, -1, 12, 6);
      second(x);
      due("BAND", x.setting(14), 5);
      due("SHUNT", x.setting(12), 6);
    });
    test("19: DRIVEN without CELLS", () -> {
      PackWatch x = new PackWatch();
      x.piece(100, 3);
      due("drive()", x.drive(), 0);
      due("TIME", x.is(6), 3);
      due("REQUEST", x.setting(20), 100);
    });
    test("61: HARM without CELLS", () -> due("harm(300)", set(new PackWatch(), 28, 299).harm(300), 9));
    test("14: a MARK without CELLS tells of none, also of those told behind it", () -> {
      PackWatch x = new PackWatch();
      due("mark(0)", x.mark(0), true);
      x.cell(100, 500, 5);
      for (int what = 0; what < 4; what++) due("since(0, 0, " + what + ")", x.since(0, 0, what), BAD);
    });
    test("(7) an elder SECOND than the CELL: the greatest, the least VOLTS, MEASURED, TURNS as ahead of any", () -> {
      PackWatch x = at(new PackWatch(), 50);
      x.cell(100, 500, 5);
      int[] what = {9, 11, 12, 14, 15, 16, 17, 18};
      int[] want = {0, NONE, NONE, 1, NO_OHMS, NONE, 0, 0};
      for (int i = 0; i < what.length; i++) due("of(0, " + what[i] + ")", x.of(0, what[i]), want[i]);
      second(x);
      due("the greatest VOLTS", x.of(0, 11), 3700);
      due("RESTED is of the pack", x.is(8), 51);
    });
  }

  // ---- no PIECES, ZONES, RULES, STEPS, MARK, lines

  static void nothingTold() {
    Supplier<PackWatch> wiped = () -> {
      PackWatch x = wide(100, 500, 5);
      x.piece(5000, 9);
      x.wipe();
      return x;
    };
    for (Supplier<PackWatch> made : List.<Supplier<PackWatch>>of(PackWatch::new, () -> closed(100, 500, 5), wiped)) {
      test("19: no PIECES: drive() is NONE", () -> {
        due("drive()", made.get().drive(), NONE);
        due("TIME", made.get().is(6), made.get().driven(6));
      });
      test("59: no PIECES: as it is now", () -> {
        for (int what = 0; what < 16; what++) due("driven(" + what + ")", made.get().driven(what), made.get().is(what));
      });
      test("18: no PIECES: it had 0", () -> due("wipe()", made.get().wipe(), 0));
      test("53: no PIECES: there is none such", () -> refused("driveOf", made, BAD, (x, n) -> x.driveOf(n, 0), -1, 0, 1, 23, 24, MIN, MAX));
      test("21: no PIECES, no ZONES", () -> due("is(12), is(15)", made.get().is(12) + made.get().is(15), 0));
      test("26: no ZONES: there is none such", () -> refused("zoneOf", made, BAD, (x, n) -> x.zoneOf(n, 0), -1, 0, 1, 5, 6, MIN, MAX));
      test("24: no RULES: how many, and none such", () -> {
        due("ruleOf(NONE, 0)", made.get().ruleOf(NONE, 0), 0);
        refused("ruleOf", made, BAD, (x, n) -> x.ruleOf(n, 0), -2, 0, 1, 7, 8, MIN, MAX);
      });
      test("17: no RULES: there were 0", () -> due("unrule()", made.get().unrule(), 0));
      test("34: no MARK", () -> {
        for (int m = 0; m < 3; m++)
          for (int what = 0; what < 4; what++) due("since(" + m + ", 0, " + what + ")", made.get().since(m, 0, what), BAD);
      });
      test("52: THE BOOK has no lines", () -> {
        due("book(NONE, 0)", made.get().book(NONE, 0), 0);
        refused("book", made, -2, (x, n) -> x.book(n, 0), -2, 0, 1, 23, 24, MIN, MAX);
      });
      test("51, 33: never so", () -> {
        for (int f = 0; f < 11; f++) due("when(" + f + ")", made.get().when(f), NONE);
        for (int f = 0; f < 4; f++) due("culprit(" + f + ")", made.get().culprit(f), NONE);
      });
    }
    test("32: no SECOND, no TRACE", () -> {
      due("trace(NONE, 0)", cells(100, 500, 5).trace(NONE, 0), 0);
      refused("trace", () -> cells(100, 500, 5), BAD, (x, n) -> x.trace(n, 0), -2, 0, 1, 31, 32, MIN, MAX);
    });
    test("47: no ZONES: nothing of this", () -> due("limit(0)", cells(100, 500, 5).limit(0), 50000));
    test("(8) no RULES: settings stay", () -> {
      PackWatch x = wide(100, 500, 5);
      x.rule(6, true, 0, 14, 99);
      x.unrule();
      due("BAND", second(x).setting(14), 10);
    });
    test("20, 69: no STEPS", () -> {
      due("undo()", new PackWatch().undo(), NONE);
      due("steps()", new PackWatch().steps(), 0);
      PackWatch x = cells(100, 500, 5);
      due("undo()", x.undo(), 0);
      due("undo()", x.undo(), NONE);
      due("undo() again", x.undo(), NONE);
      due("steps()", x.steps(), 0);
      due("a STEP is told again", x.cell(100, 500, 5), 0);
      due("steps()", x.steps(), 1);
    });
    test("68: THE IMAGE of a new object", () -> {
      PackWatch x = cells(100, 500, 5);
      due("back()", x.back(), 0);
      due("undo()", x.undo(), NONE);
      due("CELLS", x.is(0), 0);
      due("back() again", x.back(), 0);
    });
    test("20: a MARK that is taken back is none; one that lay there is again", () -> {
      PackWatch x = cells(100, 500, 5);
      x.mark(2);
      x.undo();
      due("since(2, 0, 0)", x.since(2, 0, 0), BAD);
      x.mark(2);
      x.charge(0, 0);
      x.mark(2);
      due("since(2, 0, 0)", x.since(2, 0, 0), 0);
      x.undo();
      due("since(2, 0, 0)", x.since(2, 0, 0), 500);
    });
  }

  // ---- a CELL full, a CELL empty

  static void fullCell() {
    test("a CELL is full: PART, REST, room(0), eta(0), fullness()", () -> {
      PackWatch x = cells(9999, 1000, 5);
      due("CHARGE", x.of(0, 1), 35996400);
      due("PART", x.of(0, 4), 1000);
      due("REST", x.of(0, 5), 4200);
      due("room(0)", x.room(0), 0);
      due("eta(0)", x.eta(0), 0);
      due("fullness()", x.fullness(), Double.doubleToLongBits(1.0));
      due("goal()", x.goal(), 1000);
      due("hours(1000, 1)", x.hours(1000, 1), 0);
    });
    test("a CELL is full: CURRENT goes into it, CHARGE stays", () -> {
      PackWatch x = set(wide(100, 1000, 0), 20, 5000, 18, 10);
      x.run(3);
      due("CURRENT", x.is(4), 5000);
      due("CHARGE", x.of(0, 1), 360000);
      due("RECKONED CHARGE", x.of(0, 8), 360000);
      due("THROUGH", x.of(0, 9), 15000);
      due("PASSED", x.of(0, 17), 15000);
    });
    test("a CELL is full at HIGH: its LIMIT is 0", () -> {
      PackWatch x = set(closed(100, 1000, 0), 20, 5000);
      due("limit(0)", x.limit(0), 0);
      second(x);
      due("CURRENT", x.is(4), 0);
      due("HELD BACK", x.of(0, 18), 1);
      due("at HIGH is not above it", x.is(5), 0);
    });
    test("(4) a SHUTTLE comes to a CELL that becomes full", () -> {
      PackWatch x = set(cells(9999, 1000, 0, 100, 999, 0), 17, 2000, 11, 2, 14, 0, 15, 5000, 16, 100);
      second(x);
      due("full", x.of(1, 1), 360000);
      due("LOST: what there was no room for", x.is(11), 5000 - 360);
    });
    test("(4) both are full: no SHUTTLE", () -> {
      PackWatch x = set(cells(9999, 1000, 0, 100, 1000, 0), 17, 2000, 11, 2, 14, 0, 15, 5000, 16, 100);
      second(x);
      due("MOVED", x.is(10), 0);
    });
    test("65: full in the SECOND in which it becomes so", () -> row("eta(0) by what lacks", n -> charges(set(wide(100, 500, 0), 20, 3600), 360000 - n), x -> x.eta(0),
        rows(0, 1, 3600, 3601, 7200), 0, 1, 1, 2, 2));
  }

  static void emptyCell() {
    test("a CELL is empty: PART, REST, room(1), eta(1), fullness()", () -> {
      PackWatch x = cells(9999, 0, 5);
      due("CHARGE", x.of(0, 1), 0);
      due("PART", x.of(0, 4), 0);
      due("REST", x.of(0, 5), 3000);
      due("room(1)", x.room(1), 0);
      due("eta(1)", x.eta(1), 0);
      due("fullness()", x.fullness(), 0);
      due("energy()", x.energy(), 0);
      due("goal()", x.goal(), 0);
      due("below(1)", x.below(1), 1);
      due("need(0)", x.need(0), 0);
    });
    test("a CELL is empty: CURRENT goes out of it, CHARGE stays", () -> {
      PackWatch x = set(wide(100, 0, 0), 20, -5000, 18, -10, 27, 10);
      x.run(3);
      due("CURRENT", x.is(4), -5000);
      due("CHARGE", x.of(0, 1), 0);
      due("RECKONED CHARGE", x.of(0, 8), 0);
      due("THROUGH", x.of(0, 9), 15000);
      due("PASSED", x.of(0, 17), -15000);
    });
    test("a CELL is empty at LOW: its LIMIT is 0", () -> {
      PackWatch x = set(closed(100, 0, 0), 20, -5000, 1, 3000);
      due("limit(1)", x.limit(1), 0);
      second(x);
      due("CURRENT", x.is(4), 0);
      due("HELD BACK", x.of(0, 18), 1);
      due("at LOW is not below it", x.is(5), 0);
    });
    test("(4) all are empty: no SHUNT, no SHUTTLE", () -> row("sums by MODE", n -> second(set(alike(16, 100, 0, 0), 11, n, 14, 0, 13, 16)),
        x -> x.is(9) + x.is(10) + x.is(13), rows(0, 1, 2), 0, 0, 0));
    test("(4) a SHUTTLE empties a CELL", () -> {
      PackWatch x = second(set(cells(100, 1, 0, 9999, 0, 0), 11, 2, 14, 0, 15, 360));
      due("CHARGE", x.of(0, 1), 0);
      due("came", x.of(1, 1), 324);
      due("eta(1)", x.eta(1), 0);
    });
    test("65: empty in the SECOND in which it becomes so", () -> row("eta(1) by CHARGE", n -> charges(set(wide(100, 500, 0), 20, -3600), n), x -> x.eta(1),
        rows(0, 1, 3600, 3601, 7200), 0, 1, 1, 2, 2));
    test("65: one is full, one is empty", () -> {
      PackWatch x = cells(100, 0, 0, 100, 1000, 0);
      due("eta(0)", x.eta(0), 0);
      due("eta(1)", x.eta(1), 0);
      due("room(0)", x.room(0), 0);
      due("room(1)", x.room(1), 0);
      due("spread()", x.spread(), 1000);
    });
  }

  // ---- full lists

  static void fullLists() {
    test("2: NONE if there are 16 CELLS", () -> {
      PackWatch x = new PackWatch();
      for (int i = 0; i < 16; i++) due("cell() " + i, x.cell(100, 500, i), i);
      due("a 17th", x.cell(100, 500, 0), NONE);
      due("CELLS", x.is(0), 16);
      due("the 16th", x.of(15, 2), 15);
      x.undo();
      due("room for one, when one is taken back", x.cell(100, 500, 77), 15);
      due("the 16th", x.of(15, 2), 77);
    });
    test("11: NONE if there are 6 ZONES", () -> {
      PackWatch x = new PackWatch();
      for (int i = 1; i <= 6; i++) due("zone() " + i, x.zone(i, 10 * i), i);
      due("a 7th", x.zone(7, 70), NONE);
      due("ZONES", x.is(15), 6);
      due("the 6th", x.zoneOf(5, 1), 60);
      x.undo();
      due("room for one, when one is taken back", x.zone(6, 77), 6);
    });
    test("15: NONE if it has 24 PIECES", () -> {
      PackWatch x = new PackWatch();
      for (int i = 1; i <= 24; i++) due("piece() " + i, x.piece(i, 1), i);
      due("a 25th", x.piece(25, 1), NONE);
      due("PIECES", x.is(12), 24);
      due("driven(6)", x.driven(6), 24);
      due("the 24th", x.driveOf(23, 0), 24);
      due("drive()", x.drive(), 0);
      due("REQUEST is the last one's", x.setting(20), 24);
      due("wipe()", x.wipe(), 24);
      due("from 0 on again", x.piece(7, 1), 1);
    });
    test("15: 24 PIECES of 99 SECONDS", () -> {
      PackWatch x = new PackWatch();
      for (int i = 1; i <= 24; i++) x.piece(i, 99);
      due("driven(6)", x.driven(6), 2376);
      due("drive()", x.drive(), 0);
      due("TIME", x.is(6), 2376);
    });
    test("16: NONE if there are 8 RULES", () -> {
      PackWatch x = new PackWatch();
      for (int i = 1; i <= 8; i++) due("rule() " + i, x.rule(6, true, 0, 14, i), i);
      due("a 9th", x.rule(6, true, 0, 14, 9), NONE);
      due("how many", x.ruleOf(NONE, 0), 8);
      due("the last one wins", second(x).setting(14), 8);
      due("unrule()", x.unrule(), 8);
      due("from 0 on again", x.rule(6, true, 0, 14, 9), 1);
      due("the first one", x.ruleOf(0, 4), 9);
    });
    test("13: each of 24 HOURS has its PRICE", () -> {
      PackWatch x = new PackWatch();
      for (int h = 0; h < 24; h++) x.price(h, 24 - h);
      for (int k = 1; k <= 24; k++) {
        due("cheapest(" + k + ", 1, 0)", x.cheapest(k, 1, 0), k * (k + 1) / 2);
        due("cheapest(" + k + ", 1, 1)", x.cheapest(k, 1, 1), ((1 << k) - 1) << (24 - k));
      }
    });
  }

  // ---- what is taken back

  /** All is as ahead of it, whatever is asked; of packs with fewer than 20 STEPS. */
  static void takenBack(String step, Supplier<PackWatch> made, Ask act) {
    test("20: taken back: " + step, () -> {
      PackWatch z = made.get();
      int before = z.steps();
      act.of(z);
      due(step + " is one STEP", z.steps(), before + 1);
      due("undo()", z.undo(), before);
      Supplier<PackWatch> back = () -> {
        PackWatch x = made.get();
        act.of(x);
        x.undo();
        return x;
      };
      alike(step + " and undo()", back, made);
      stepsAlike(step + " and undo()", back, made);
      imagesAlike(step + " and undo()", back, made);
      due(step + " and undo(): hear()", back.get().hear(), made.get().hear());
    });
  }
  /** CLOSED, with a history of its own, and few STEPS. */
  static PackWatch going() {
    PackWatch x = set(cells(110, 500, 30, 120, 520, 5), 8, 0, 11, 1, 14, 0, 25, 50, 17, 2000);
    x.piece(0, 12);
    x.piece(3000, 3);
    x.piece(-2000, 3);
    x.close();
    x.drive();
    x.mark(0);
    return x;
  }
  static PackWatch faulty() {
    PackWatch x = set(second(set(going(), 29, 0)), 29, 1);
    x.run(10);
    return x;
  }

  static void steps() {
    Supplier<PackWatch> made = EmptyAndFullTest::going;
    takenBack("a CELL told", made, x -> x.cell(300, 300, 3));
    takenBack("CHARGE told", made, x -> num(x.charge(0, 7)));
    takenBack("WARMTH told", made, x -> num(x.warm(0, 7)));
    takenBack("a setting", made, x -> num(x.set(20, 77)));
    takenBack("a setting that is so already", made, x -> num(x.set(14, 0)));
    takenBack("SECONDS gone, together", made, x -> x.run(200));
    takenBack("one SECOND gone", made, x -> x.run(1));
    takenBack("CLOSED", () -> { PackWatch x = going(); x.open(); return x; }, x -> num(x.close()));
    takenBack("OPENED", made, x -> num(x.open()));
    takenBack("RESET", EmptyAndFullTest::faulty, x -> num(x.reset(10)));
    takenBack("a PIECE told", made, x -> x.piece(5, 5));
    takenBack("THE DRIVE wiped", made, x -> x.wipe());
    takenBack("DRIVEN", made, x -> x.drive());
    takenBack("a RULE told", made, x -> x.rule(6, true, 0, 14, 5));
    takenBack("RULES wiped", () -> { PackWatch x = going(); x.rule(6, true, 0, 14, 5); return x; }, x -> x.unrule());
    takenBack("a CONTACTOR told", made, x -> num(x.stuck(2, 2)));
    takenBack("a ZONE told", made, x -> x.zone(5, 5));
    takenBack("a PRICE told", made, x -> num(x.price(0, 5)));
    takenBack("HEARD", made, x -> x.hear());
    takenBack("a MARK laid", made, x -> num(x.mark(0)));
    test("20: the latest first, 20 of them, each as it was", () -> {
      PackWatch x = new PackWatch();
      for (int i = 1; i <= 60; i++) x.set(14, i);
      for (int i = 59; i >= 40; i--) {
        due("undo()", x.undo(), i - 40);
        due("BAND", x.setting(14), i);
      }
      due("undo()", x.undo(), NONE);
      for (int i = 1; i <= 5; i++) x.set(14, 100 + i);
      due("steps()", x.steps(), 5);
      for (int i = 4; i >= 0; i--) due("undo()", x.undo(), i);
      due("BAND", x.setting(14), 40);
    });
    test("20: undo() leaves THE IMAGE", () -> {
      PackWatch x = cells(100, 500, 5);
      x.image();
      x.undo();
      due("CELLS", x.is(0), 0);
      due("back()", x.back(), 0);
      due("CELLS", x.is(0), 1);
      due("undo()", x.undo(), 0);
      due("CELLS", x.is(0), 0);
    });
  }

  public static void main(String[] args) {
    noCells();
    nothingTold();
    fullCell();
    emptyCell();
    fullLists();
    steps();
    finish("EmptyAndFullTest");
  }
}
