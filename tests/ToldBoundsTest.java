/**
 * What is told and foretold (III, and the promises that rest on it): each sentence that names a bound, tried at the
 * bound, one below it and one above it. What is due was reckoned by hand from the sentence that the test bears.
 */
public final class ToldBoundsTest extends Due {
  static PackWatch wide(int... told) { return set(closed(told), 0, 4500, 1, 2000, 4, 99999, 5, 999); }
  static int[] rows(int... numbers) { return numbers; }
  static PackWatch warmed(PackWatch x, int cell, int warmth) {
    due("warm(" + cell + ", " + warmth + ")", x.warm(cell, warmth), true);
    return x;
  }

  // ---- of CELLS

  static void rest() {
    int[] curve = {3000, 3450, 3550, 3600, 3650, 3700, 3760, 3840, 3930, 4040, 4200};
    test("I. REST at 0, 100, .. 1000", () -> {
      for (int i = 0; i <= 10; i++) due("rest(" + 100 * i + ")", new PackWatch().rest(100 * i), curve[i]);
    });
    test("I. REST between on the straight line (downward): one below, one above each of these", () -> {
      int[] below = {3445, 3549, 3599, 3649, 3699, 3759, 3839, 3929, 4038, 4198};
      int[] above = {3004, 3451, 3550, 3600, 3650, 3700, 3760, 3840, 3931, 4041};
      for (int i = 0; i < 10; i++) due("rest(" + (100 * i + 99) + ")", new PackWatch().rest(100 * i + 99), below[i]);
      for (int i = 0; i < 10; i++) due("rest(" + (100 * i + 1) + ")", new PackWatch().rest(100 * i + 1), above[i]);
    });
    test("I. PART: CHARGE times 1000 by full (downward)", () -> row("PART at CAPACITY 9999 by CHARGE", n -> charges(cells(9999, 0, 0), n), x -> x.of(0, 4),
        rows(0, 35996, 35997, 71992, 71993, 17998199, 17998200, 35996399, 35996400), 0, 0, 1, 1, 2, 499, 500, 999, 1000));
    test("2: CHARGE is PART times CAPACITY times 36 by 10, downward", () -> row("CHARGE at CAPACITY 101 by PART", n -> cells(101, n, 0), x -> x.of(0, 1),
        rows(0, 1, 2, 5, 10, 999, 1000), 0, 363, 727, 1818, 3636, 363236, 363600));
    test("I. VOLTS: CURRENT times OHMS by 1000 (downward)", () -> row("VOLTS of 3700 at CURRENT, OHMS 1", n -> {
      PackWatch x = wide(9999, 500, 1);
      x.charge(0, 18020000);
      return second(set(x, 20, n));
    }, x -> x.of(0, 6), rows(-2001, -2000, -1001, -1000, -999, -1, 0, 1, 999, 1000, 1999, 2000),
        3697, 3698, 3698, 3699, 3699, 3699, 3700, 3700, 3700, 3701, 3701, 3702));
    test("I. HEALTH: CAPACITY of 1000 of what was told (downward)", () -> {
      row("HEALTH of 300 by THROUGH", n -> second(set(wide(300, 500, 0), 24, 1, 20, 3600 * n)), x -> x.of(0, 10), rows(0, 1, 2, 3, 27), 1000, 996, 993, 990, 910);
      row("HEALTH of 101", n -> second(set(wide(101, 500, 0), 24, 1, 20, 3600 * n)), x -> x.of(0, 10), rows(0, 1, 2, 27), 1000, 990, 990, 990);
    });
    test("I. ENERGY: CHARGES times REST, together, by 3600000 (downward)", () -> {
      row("of one by CHARGE, REST 3000", n -> charges(cells(9999, 0, 0), n), PackWatch::energy, rows(0, 1199, 1200, 2399, 2400), 0, 0, 1, 1, 2);
      row("of two by CHARGE", n -> charges(cells(9999, 0, 0, 9999, 0, 0), n, 600), PackWatch::energy, rows(0, 599, 600, 1799, 1800), 0, 0, 1, 1, 2);
      due("the most", alike(16, 9999, 1000, 0).energy(), 671932);
    });
    test("I. MODULES 0 .. 3: four CELLS each, by numbers", () -> {
      for (int count = 0; count <= 16; count++)
        for (int m = 0; m < 4; m++) {
          int in = Math.max(0, Math.min(4, count - 4 * m));
          due("module(" + m + ", 3) of " + count, alike(count, 100, 500, 0).module(m, 3), in == 0 ? BAD : in);
          due("module(" + m + ", 0) of " + count, alike(count, 100, 500, 0).module(m, 0), in == 0 ? BAD : in * 3700);
        }
    });
    test("25: the most WARMTH, also below 0", () -> row("of -400 and", n -> warmed(warmed(cells(100, 500, 0, 100, 500, 0), 0, -400), 1, n), x -> x.module(0, 1),
        rows(-400, -399, -1, 0, 1200), -400, -399, -1, 0, 1200));
    test("25: WARMTH below what can be told", () -> {
      PackWatch x = set(wide(100, 500, 0, 100, 500, 0), 22, 64, 6, -400);
      warmed(x, 0, -400);
      due("all at the least", warmed(x, 1, -400).module(0, 1), -400);
    });
  }

  static void limits() {
    test("III. LIMITS: MOST", () -> {
      row("into", n -> set(cells(100, 500, 0), 4, n, 5, 999), x -> x.limit(0), rows(1, 2, 99998, 99999), 1, 2, 99998, 99999);
      row("out of", n -> set(cells(100, 500, 0), 4, n, 5, 999), x -> x.limit(1), rows(1, 2, 99998, 99999), 1, 2, 99998, 99999);
    });
    test("III. HIGH less VOLTS, times GAIN, if that is less (0 at least)", () -> {
      row("into at 3700 by HIGH", n -> set(cells(100, 500, 0), 0, n), x -> x.limit(0), rows(3000, 3699, 3700, 3701, 3949, 3950, 3951, 4500),
          0, 0, 0, 200, 49800, 50000, 50000, 50000);
      row("into by GAIN", n -> set(cells(100, 500, 0), 5, n), x -> x.limit(0), rows(1, 99, 100, 101, 999), 500, 49500, 50000, 50000, 50000);
      row("out of isn't by HIGH", n -> set(cells(100, 500, 0), 0, n), x -> x.limit(1), rows(3000, 4500), 50000, 50000);
    });
    test("III. VOLTS less LOW, times GAIN", () -> {
      row("out of at 3600 by LOW", n -> set(cells(100, 300, 0), 1, n), x -> x.limit(1), rows(2000, 3349, 3350, 3351, 3599, 3600, 3601, 3700),
          50000, 50000, 50000, 49800, 200, 0, 0, 0);
      row("into isn't by LOW", n -> set(cells(100, 300, 0), 1, n), x -> x.limit(0), rows(2000, 3700), 50000, 50000);
    });
    test("III. HOT less WARMTH, times 500, likewise", () -> {
      int[] warmths = rows(-400, 499, 500, 501, 599, 600, 601, 1200);
      row("into", n -> warmed(set(cells(100, 500, 0), 3, -400), 0, n), x -> x.limit(0), warmths, 50000, 50000, 50000, 49500, 500, 0, 0, 0);
      row("out of", n -> warmed(set(cells(100, 500, 0), 3, -400), 0, n), x -> x.limit(1), warmths, 50000, 50000, 50000, 49500, 500, 0, 0, 0);
    });
    test("III. 0, if one's WARMTH is below COLD (into alone)", () -> {
      row("into", n -> warmed(cells(100, 500, 0, 100, 500, 0), 1, n), x -> x.limit(0), rows(-400, -1, 0, 1), 0, 0, 50000, 50000);
      row("out of", n -> warmed(cells(100, 500, 0, 100, 500, 0), 1, n), x -> x.limit(1), rows(-400, -1, 0, 1), 50000, 50000, 50000, 50000);
      row("into by COLD at 250", n -> set(warmed(cells(100, 500, 0), 0, 100), 3, n), x -> x.limit(0), rows(-400, 99, 100, 101, 200), 50000, 50000, 50000, 0, 0);
    });
    test("III. the CURRENT of the latest ZONE whose WARMTH it has or more (none: nothing of this)", () -> {
      int[] warmths = rows(-400, 99, 100, 101, 199, 200, 201, 500);
      for (int way = 0; way < 2; way++) {
        int w = way;
        row("by WARMTH, way " + way, n -> {
          PackWatch x = set(warmed(cells(100, 500, 0), 0, n), 3, -400);
          x.zone(100, 700);
          x.zone(200, 900);
          return x;
        }, x -> x.limit(w), warmths, 50000, 50000, 700, 700, 700, 900, 900, 900);
        row("CURRENT of the ZONE, way " + way, n -> {
          PackWatch x = cells(100, 500, 0);
          x.zone(-400, n);
          return x;
        }, x -> x.limit(w), rows(0, 1, 49999, 50000, 50001, 99999), 0, 1, 49999, 50000, 50000, 50000);
      }
    });
    test("III. VOLTS at CURRENT 0", () -> row("into, while CURRENT flows", n -> second(set(wide(9999, 500, 99), 20, n, 0, 3800, 5, 10)), x -> x.limit(0),
        rows(0, 1000), 1000, 1000));
    test("48: the CELL that holds back most, MOST aside; of like ones the first", () -> {
      row("worst(0) of 500 and", n -> set(cells(100, 500, 0, 100, n, 0), 4, 1), x -> x.worst(0), rows(0, 499, 500, 501, 502, 1000), 0, 0, 0, 0, 1, 1);
      row("worst(1) of 500 and", n -> set(cells(100, 500, 0, 100, n, 0), 4, 1), x -> x.worst(1), rows(0, 499, 500, 501, 502, 1000), 1, 1, 0, 0, 0, 0);
      row("both at 0", n -> set(cells(100, 500, 0, 100, n, 0), 0, 3000), x -> x.worst(0), rows(0, 500, 1000), 0, 0, 0);
    });
  }

  static void warnings() {
    test("III. HIGH: VOLTS above HIGH less MARGIN", () -> row("at 3700, MARGIN 10, by HIGH", n -> set(cells(100, 500, 0), 26, 10, 0, n), PackWatch::warnings,
        rows(3000, 3709, 3710, 3711, 4500), 1, 1, 0, 0, 0));
    test("III. LOW: VOLTS below LOW and MARGIN", () -> row("at 3600, MARGIN 10, by LOW", n -> set(cells(100, 300, 0), 26, 10, 1, n), PackWatch::warnings,
        rows(2000, 3590, 3591, 3700), 0, 0, 2, 2));
    test("III. HOT: WARMTH above HOT less MARGIN", () -> row("at HOT 600, MARGIN 200, by WARMTH", n -> warmed(set(cells(100, 500, 0), 26, 200, 3, -400), 0, n),
        PackWatch::warnings, rows(0, 399, 400, 401, 1200), 0, 0, 0, 4, 4));
    test("III. COLD: WARMTH below COLD and MARGIN", () -> row("at COLD 0, MARGIN 200, by WARMTH", n -> warmed(set(cells(100, 500, 0), 26, 200), 0, n),
        PackWatch::warnings, rows(-400, -1, 0, 199, 200, 201), 8, 8, 8, 8, 0, 0));
    test("III. APART: the spread above SPREAD less MARGIN", () -> row("spread 100, MARGIN 10, by SPREAD", n -> set(cells(100, 500, 0, 100, 400, 0), 26, 10, 17, n),
        PackWatch::warnings, rows(1, 109, 110, 111, 2000), 128, 128, 0, 0, 0));
    test("III. MARGIN at its bounds", () -> row("by MARGIN at HIGH 3800", n -> set(cells(100, 500, 0), 26, n, 0, 3800), PackWatch::warnings, rows(0, 99, 100, 101, 200), 0, 0, 0, 1, 1));
    test("III. VOLTS (at CURRENT)", () -> row("by CURRENT at HIGH 3710, OHMS 10", n -> second(set(wide(9999, 500, 10), 20, n, 0, 3710)), PackWatch::warnings,
        rows(1000, 1099), 0, 0));
    test("30: a bit for any CELL", () -> row("the WARM one", n -> warmed(alike(16, 100, 500, 0), n, 1200), PackWatch::warnings, rows(0, 7, 15), 4, 4, 4));
  }

  static void balance() {
    test("III. NEED: SECONDS of SHUNT to the least PART or below", () -> {
      row("need(1) of CHARGE, SHUNT 100", n -> charges(cells(100, 0, 0, 100, 0, 0), 0, n), x -> x.need(1), rows(0, 1, 99, 100, 101, 200, 360000), 0, 1, 1, 1, 2, 2, 3600);
      row("need(1) of 1000 by SHUNT", n -> set(charges(cells(100, 0, 0, 100, 0, 0), 0, 1000), 12, n), x -> x.need(1), rows(0, 1, 999, 1000, 1001, 9999), NONE, 1000, 2, 1, 1, 1);
      row("need(0), SHUNT 0", n -> set(cells(100, 0, 0), 12, n), x -> x.need(0), rows(0, 1), NONE, 0);
      row("the least PART itself, CHARGE above it", n -> set(charges(cells(100, 1, 0), n), 12, 1), x -> x.need(0), rows(360, 361, 719, 720), 0, 1, 359, 0);
    });
    test("III. NEED: that PART times CAPACITY times 36 by 10, downward", () -> row("need(1) at CAPACITY 101, least PART 1: 363", n ->
        set(charges(cells(100, 1, 0, 101, 500, 0), 360, n), 12, 1), x -> x.need(1), rows(363, 364, 365), 363, 1, 2));
    test("III. GOAL: CHARGES together times 1000, by what full ones have (downward)", () -> row("goal() of two", n -> charges(cells(100, 0, 0, 900, 0, 0), 0, n), PackWatch::goal,
        rows(0, 3599, 3600, 3601, 3240000), 0, 0, 1, 1, 900));
    test("III. FLOW may be below 0", () -> {
      row("flow(0) by CHARGE of CELL 0", n -> charges(cells(100, 500, 0, 100, 500, 0), n, 180000), x -> x.flow(0), rows(0, 179999, 180000, 180001, 180720, 360000),
          -90000, -179640 + 179999, 0, 1, 360, 90000);
      row("flow(i) of 16, one full", n -> {
        PackWatch x = alike(16, 9999, 0, 0);
        x.charge(15, 35996400);
        return x;
      }, x -> x.flow(14), rows(0), -15L * (62 * 9999 * 36 / 10));
      row("the greatest", n -> {
        PackWatch x = alike(16, 9999, 1000, 0);
        x.charge(15, 0);
        return x;
      }, x -> x.flow(14), rows(0), 15L * (35996400 - 937 * 9999L * 36 / 10));
    });
    test("III. HALVES: 8 CELLS at most, an even number", () -> {
      for (int count = 0; count <= 16; count++) {
        boolean fits = count > 0 && count <= 8 && count % 2 == 0;
        due("halves(0) of " + count, alike(count, 100, 500, 0).halves(0), fits ? (1 << count / 2) - 1 : NONE);
        due("halves(1) of " + count, alike(count, 100, 500, 0).halves(1), fits ? 0 : NONE);
      }
    });
    test("III. HALVES: CELL 0 is among them", () -> row("bits by CHARGE of CELL 0", n -> charges(cells(100, 0, 0, 100, 1, 0, 100, 2, 0, 100, 3, 0), n), x -> x.halves(0) * 1000000L + x.halves(1),
        rows(0, 1, 359, 360, 361, 720, 1079, 1080, 1081, 360000), 9000000, 9000001, 9000359, 5000360, 5000359, 5000000, 5000359, 3000360, 3000359, 3358560));
    test("III. HALVES: the others are the greater ones, too", () -> row("differ without sign", n -> charges(cells(100, 0, 0, 100, 500, 0), n), x -> x.halves(1),
        rows(0, 179999, 180000, 180001, 360000), 180000, 1, 0, 1, 180000));
    test("54: how much more CHARGE can come into all alike", () -> row("room(0) of full 360000 and", n -> charges(cells(100, 0, 0, 100, 500, 0), n), x -> x.room(0),
        rows(0, 179999, 180000, 180001, 359999, 360000), 180000, 180000, 180000, 179999, 1, 0));
    test("54: out of all alike", () -> row("room(1)", n -> charges(cells(100, 0, 0, 100, 500, 0), n), x -> x.room(1), rows(0, 1, 179999, 180000, 180001), 0, 1, 179999, 180000, 180000));
    test("44: a PART below that", () -> row("below(500) by CHARGE", n -> charges(cells(100, 0, 0), n), x -> x.below(500), rows(0, 179999, 180000), 1, 1, 0));
    test("49: the greatest PART less the least", () -> row("spread()", n -> charges(cells(100, 0, 0, 100, 500, 0), n), PackWatch::spread, rows(0, 359, 360, 180000, 180360, 360000), 500, 500, 499, 0, 1, 500));
    test("36: of two the lesser", () -> {
      for (int count = 1; count <= 16; count++) {
        PackWatch x = new PackWatch();
        for (int i = 0; i < count; i++) x.cell(100, (i * 7 % count) * 10, 0);
        PackWatch y = new PackWatch();
        for (int i = 0; i < count; i++) y.cell(100, i * 10, 0);
        due("middle() of " + count, y.middle(), (count - 1) / 2 * 10);
        due("scatter() of " + count, y.scatter(), count / 2 * ((count + 1) / 2) * 10);
        if (count % 7 != 0) due("middle() in any order of " + count, x.middle(), (count - 1) / 2 * 10);
      }
    });
    test("42: an hour of 3600 SECONDS, upward", () -> row("hours(1000, 10) by what lacks", n -> charges(cells(100, 0, 0), 360000 - n), x -> x.hours(1000, 10),
        rows(0, 1, 35999, 36000, 36001, 72000, 72001), 0, 1, 1, 1, 2, 2, 3));
    test("42: a PART times CAPACITY times 36 by 10, downward", () -> row("hours(1, 1) at CAPACITY 101: 363", n -> charges(cells(101, 0, 0), n), x -> x.hours(1, 1), rows(0, 362, 363, 364), 1, 1, 0, 0));
  }

  static void cheapest() {
    test("III. k of 24 HOURS: 23 and 0 are no neighbours", () -> {
      row("two cheap ones at the ends", n -> {
        PackWatch x = new PackWatch();
        for (int h = 1; h < 23; h++) x.price(h, n);
        return x;
      }, x -> x.cheapest(2, 1, 0) * 100000000L + x.cheapest(2, 1, 1), rows(0, 1, 999), 3, 100000003, 99900000003L);
      row("in two stretches", n -> {
        PackWatch x = new PackWatch();
        for (int h = 1; h < 23; h++) x.price(h, n);
        return x;
      }, x -> x.cheapest(2, 2, 0) * 100000000L + x.cheapest(2, 2, 1), rows(0, 1, 999), 3, 0x800001, 0x800001);
    });
    test("III. in m stretches at most", () -> {
      PackWatch x = new PackWatch();
      for (int h = 0; h < 24; h++) x.price(h, h % 4 < 2 ? 1 : 100);
      int[] twelve = {6 + 600, 8 + 400, 8 + 400, 10 + 200, 10 + 200, 12};
      for (int m = 1; m <= 12; m++) due("cheapest(12, " + m + ", 0)", x.cheapest(12, m, 0), twelve[Math.min(m, 6) - 1]);
      due("cheapest(10, 5, 0)", x.cheapest(10, 5, 0), 10);
      due("cheapest(10, 5, 1)", x.cheapest(10, 5, 1), 0x33333);
      due("cheapest(11, 5, 0)", x.cheapest(11, 5, 0), 10 + 100);
      due("cheapest(11, 6, 0)", x.cheapest(11, 6, 0), 11);
      due("cheapest(11, 6, 1)", x.cheapest(11, 6, 1), 0x133333);
      due("cheapest(1, 1, 1)", x.cheapest(1, 1, 1), 1);
      due("cheapest(24, 1, 0)", x.cheapest(24, 1, 0), 12 + 1200);
      due("cheapest(24, 12, 1)", x.cheapest(24, 12, 1), 0xffffff);
    });
    test("III. of like ones the least bits", () -> {
      for (int k = 0; k <= 24; k++) due("cheapest(" + k + ", 12, 1)", new PackWatch().cheapest(k, 12, 1), (1 << k) - 1);
      for (int k = 0; k <= 24; k++) due("cheapest(" + k + ", 1, 1)", new PackWatch().cheapest(k, 1, 1), (1 << k) - 1);
    });
    test("III. a PRICE at its bounds", () -> row("cheapest(24, 1, 0)", n -> {
      PackWatch x = new PackWatch();
      for (int h = 0; h < 24; h++) x.price(h, n);
      return x;
    }, x -> x.cheapest(24, 1, 0), rows(0, 1, 998, 999), 0, 24, 23952, 23976));
  }

  // ---- what is foretold

  static PackWatch late(int time, int... told) {
    PackWatch x = set(cells(told), 8, 0, 17, 2000);
    at(x, time - 11);
    x.close();
    x.run(11);
    due("STATE at " + time, x.is(1), CLOSED);
    return x;
  }

  static void harm() {
    test("61: by n SECONDS", () -> row("harm(n), SILENT in the SECOND 6", n -> set(new PackWatch(), 28, 5), x -> x.harm(5) * 10000L + x.harm(6) * 100 + x.harm(7), rows(0), -10000 + 909));
    test("61: NONE if TIME would be above 9999", () -> {
      row("harm(2)", n -> set(at(new PackWatch(), n), 29, 0), x -> x.harm(2), rows(9996, 9997, 9998, 9999), 10, 10, NONE, NONE);
      row("harm(300)", n -> set(at(new PackWatch(), n), 29, 0), x -> x.harm(300), rows(9698, 9699, 9700), 10, 10, NONE);
      row("harm(1)", n -> set(at(new PackWatch(), n), 29, 0), x -> x.harm(1), rows(9997, 9998, 9999), 10, 10, NONE);
    });
    test("61: of those of one SECOND the least", () -> row("LOOSE, SILENT and that", n -> {
      PackWatch x = set(cells(100, 500, 0, 100, 600, 0), 29, 0, 28, 1);
      x.run(1);
      x.undo();
      if (n == 0) set(x, 0, 3000);
      if (n == 7) set(x, 17, 1);
      return x;
    }, x -> x.harm(5), rows(0, 7, 10), 0, 7, 10));
    test("61: one that is latched already is none", () -> row("harm(1) with LOOSE latched", n -> set(second(set(new PackWatch(), 29, 0)), 29, n), x -> x.harm(300), rows(0, 1), NONE, NONE));
  }

  static void power() {
    test("III. POWER: a multiple of 100, MOST at most", () -> {
      int[] mosts = rows(1, 99, 100, 101, 199, 200, 201, 99998, 99999);
      row("into", n -> set(wide(9999, 500, 0), 4, n), x -> x.power(0, 1), mosts, 0, 0, 100, 100, 100, 200, 200, 99900, 99900);
      row("out of", n -> set(wide(9999, 500, 0), 4, n), x -> x.power(1, 1), mosts, 0, 0, -100, -100, -100, -200, -200, -99900, -99900);
    });
    test("III. POWER: CURRENT is that in each of these", () -> {
      row("into by HIGH at 3700", n -> set(wide(9999, 500, 0), 0, n, 5, 100), x -> x.power(0, 1), rows(3699, 3700, 3701, 3702), 0, 0, 100, 200);
      row("out of by LOW at 3600", n -> set(wide(9999, 300, 0), 1, n, 5, 100), x -> x.power(1, 1), rows(3598, 3599, 3600, 3601), -200, -100, 0, 0);
    });
    test("III. POWER: no FAULT that isn't would be latched", () -> {
      row("HIGH by OHMS 10: 3700 and a hundredth of it", n -> set(wide(9999, 500, 10), 0, n), x -> x.power(0, 1), rows(3709, 3710, 3711), 900, 1000, 1100);
      row("SILENT in the SECOND n and 1", n -> {
        PackWatch x = set(wide(9999, 500, 0), 28, n, 4, 500);
        x.hear();
        return x;
      }, x -> x.power(0, 3), rows(0, 2, 3, 4), 500, 0, 500, 500);
    });
    test("62: n 1 .. 60", () -> row("LIMIT falls in the fifth SECOND: power(0, n)", n -> set(closed(1000, 500, 0), 0, 3710), x -> x.power(0, 4) * 10000L + x.power(0, 5), rows(0), 20001800));
    test("62: NONE if it isn't CLOSED", () -> {
      due("OPEN", cells(1000, 500, 0).power(0, 1), NONE);
      PackWatch x = cells(1000, 500, 0);
      x.close();
      due("PRECHARGE", x.power(0, 1), NONE);
      due("CLOSED", set(closed(1000, 500, 0), 4, 100).power(0, 1), 100);
    });
    test("62: NONE if TIME would be above 9999", () -> {
      row("power(0, 2)", n -> set(late(n, 1000, 500, 0), 4, 100), x -> x.power(0, 2), rows(9996, 9997, 9998, 9999), 100, 100, NONE, NONE);
      row("power(1, 60)", n -> set(late(n, 1000, 500, 0), 4, 100), x -> x.power(1, 60), rows(9938, 9939, 9940), -100, -100, NONE);
    });
    test("III. POWER: RULES, TAPER aside", () -> row("power(0, 3) by TAPER", n -> {
      PackWatch x = set(wide(1000, 500, 0), 4, 5000, 23, n);
      x.rule(6, true, 0, 4, 1);
      return x;
    }, x -> x.power(0, 3), rows(0, 3700, 4500), 5000, 5000, 5000));
  }

  static void yieldsAndEta() {
    test("III. YIELDS: in how many SECONDS, 2000 at most", () -> row("yields(1) by CHARGE, out of which 360 are PART 0", n -> {
      PackWatch x = set(closed(100, 500, 0), 1, 3000);
      x.charge(0, n);
      return x;
    }, x -> x.yields(1), rows(360, 361, 2357, 2358, 2359, 2360), 2, 3, 1999, 2000, NONE, NONE));
    test("III. YIELDS: up to TIME 9999", () -> {
      row("CURRENT isn't that in the SECOND behind the next", n -> set(late(n, 1000, 500, 0), 29, 0), x -> x.yields(1), rows(9996, 9997, 9998, 9999), 2, 2, NONE, NONE);
      row("CURRENT isn't that", n -> at(cells(1000, 500, 0), n), x -> x.yields(1), rows(9997, 9998, 9999), 1, 1, NONE);
    });
    test("III. YIELDS: with REQUEST less that, whatever REQUEST is", () -> row("yields(2001) by REQUEST", n -> set(closed(1000, 500, 0), 1, 3690, 20, n), x -> x.yields(2000) * 10L + x.yields(2001),
        rows(-99999, 0, 99999), 21, 21, 21));
    test("III. ETA: 2000 at most, into", () -> row("eta(0) by what lacks, CURRENT 1", n -> charges(set(wide(100, 500, 0), 20, 1), 360000 - n), x -> x.eta(0),
        rows(0, 1, 2, 1999, 2000, 2001), 0, 1, 2, 1999, 2000, NONE));
    test("III. ETA: 2000 at most, out of", () -> row("eta(1) by CHARGE, CURRENT -1", n -> charges(set(wide(100, 500, 0), 20, -1), n), x -> x.eta(1),
        rows(0, 1, 2, 1999, 2000, 2001), 0, 1, 2, 1999, 2000, NONE));
    test("III. ETA: a CELL is first", () -> row("eta(0) by what the second lacks", n -> charges(set(wide(100, 500, 0, 100, 500, 0), 20, 10), 359000, 360000 - n), x -> x.eta(0),
        rows(0, 990, 1000, 1010), 0, 99, 100, 100));
    test("III. BARE: 2000 at most", () -> row("bare() by CHARGE above the BAND, SHUNT 1", n -> {
      PackWatch x = set(cells(100, 500, 0, 100, 0, 0), 11, 1, 12, 1, 14, 0);
      x.charge(1, 180360 + n);
      return x;
    }, PackWatch::bare, rows(-1, 0, 1, 1998, 1999, 2000), 1, 2, 3, 2000, NONE, NONE));
    test("III. BARE: a SHUTTLE that moves nothing isn't one", () -> row("bare() by SHUTTLE at an odd TIME", n -> set(cells(100, 500, 0, 100, 600, 0), 11, 2, 15, n), PackWatch::bare, rows(0, 1), 1, 2));
    test("III. BARE: by MODE as it is", () -> row("bare() by MODE", n -> set(cells(100, 500, 0, 100, 600, 0), 11, n), x -> num(x.bare() == 1), rows(0, 1, 2), 1, 0, 0));
  }

  static void best() {
    test("63: the greatest BAND 0 .. 99", () -> row("bestBand(1, spread - 1) of PARTS 500 and", n -> set(cells(100, 500, 0, 100, n, 0), 12, 360), x -> x.bestBand(1, n500(x)), rows(501, 502, 599, 600, 601), 0, 1, 98, 99, 99));
    test("63: so much or less; NONE: by none", () -> {
      PackWatch x = set(cells(100, 500, 0, 100, 550, 0), 12, 360);
      due("bestBand(1, 48)", x.bestBand(1, 48), NONE);
      due("bestBand(1, 49)", set(x, 11, 1).bestBand(1, 49), 49);
      due("bestBand(1, 50)", x.bestBand(1, 50), 99);
      due("bestBand(1, 48)", x.bestBand(1, 48), NONE);
      due("bestBand(2, 48)", x.bestBand(2, 48), 48);
    });
    test("63, 66, 57, 65, 60: SECONDS beyond TIME 9999", () -> {
      PackWatch x = at(set(cells(100, 500, 0, 100, 600, 0), 11, 1), 9999);
      due("bestBand(60, 1000)", x.bestBand(60, 1000), 99);
      due("bestMode(300) isn't refused", x.bestMode(300) >= 0, true);
      due("foretold(300, 6)", x.foretold(300, 6), 9999);
      due("foretoldOf(300, 0, 0)", x.foretoldOf(300, 0, 0), 100);
      due("harm(1)", x.harm(1), NONE);
      due("run(1)", x.run(1), NONE);
    });
    test("66: of like ones the lowest", () -> {
      row("bestMode(1) by the PART of the second", n -> set(cells(100, 500, 0, 100, n, 0), 12, 360, 15, 360, 16, 0), x -> x.bestMode(1), rows(500, 510, 511, 600), 0, 0, 1, 1);
      row("bestMode(1): a SHUTTLE is better", n -> set(cells(100, 500, 0, 100, n, 0), 12, 360, 15, 720, 16, 100), x -> x.bestMode(1), rows(510, 511), 0, 2);
    });
    test("59: it stops at TIME 9999", () -> row("driven(6), driven(8) of 5 and 99 SECONDS", n -> {
      PackWatch x = at(cells(100, 500, 0), n);
      x.piece(0, 5);
      x.piece(0, 99);
      return x;
    }, x -> x.driven(6) * 100000L + x.driven(8), rows(9894, 9895, 9896, 9999), 999809998, 999909999, 999909999, 999909999));
    test("19: NONE if TIME would be above 9999", () -> row("drive() of 5 and 99 SECONDS", n -> {
      PackWatch x = at(cells(100, 500, 0), n);
      x.piece(0, 5);
      x.piece(0, 99);
      return x;
    }, x -> x.drive() * 100000L + x.is(6), rows(9894, 9895, 9896), 9998, 9999, -100000 + 9896));
    test("6: NONE if TIME would be above 9999", () -> row("run(300)", n -> at(new PackWatch(), n), x -> x.run(300) * 100000L + x.is(6), rows(9698, 9699, 9700, 9999),
        9998, 9999, -100000 + 9700, -100000 + 9999));
  }
  static int n500(PackWatch x) {
    set(x, 11, 1);
    return x.spread() - 1;
  }

  static void floats() {
    test("55: CHARGE of all together, divided by that of all full, as doubles", () -> row("fullness()", n -> charges(cells(100, 0, 0, 9999, 0, 0), n), PackWatch::fullness, rows(0, 1, 179999, 360000),
        0, Double.doubleToLongBits(1.0 / 36356400.0), Double.doubleToLongBits(179999.0 / 36356400.0), Double.doubleToLongBits(360000.0 / 36356400.0)));
    test("55: all full is 1", () -> due("fullness()", alike(16, 9999, 1000, 0).fullness(), Double.doubleToLongBits(1.0)));
    test("55: one less than full", () -> {
      PackWatch x = alike(16, 9999, 1000, 0);
      x.charge(3, 35996399);
      due("fullness()", x.fullness(), Double.doubleToLongBits(575942399.0 / 575942400.0));
    });
    test("56: mean of RECKONED less PART, without sign, as floats", () -> {
      for (int count = 1; count <= 16; count++) {
        PackWatch x = alike(count, 100, 500, 0);
        for (int i = 0; i < count; i++) x.charge(i, (i % 2 == 0 ? 500 - i : 500 + i) * 360);
        due("off() of " + count, x.off(), Float.floatToIntBits((float) (count * (count - 1) / 2) / (float) count));
      }
    });
    test("56: at its bounds", () -> row("off() of one CELL told 0", n -> charges(cells(100, 0, 0), n), PackWatch::off, rows(0, 359, 360, 720, 359999, 360000),
        0, 0, Float.floatToIntBits(1f), Float.floatToIntBits(2f), Float.floatToIntBits(999f), Float.floatToIntBits(1000f)));
  }

  public static void main(String[] args) {
    rest();
    limits();
    warnings();
    balance();
    cheapest();
    harm();
    power();
    yieldsAndEta();
    best();
    floats();
    finish("ToldBoundsTest");
  }
}
