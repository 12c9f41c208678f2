/**
 * A SECOND, places (4) to (8), and what is kept of it: each sentence that names a bound, tried at the bound, one
 * below it and one above it. What is due was reckoned by hand from the sentence that the test bears.
 */
public final class BalanceBoundsTest extends Due {
  static PackWatch wide(int... told) { return set(closed(told), 0, 4500, 1, 2000, 4, 99999, 5, 999); }
  static int[] rows(int... numbers) { return numbers; }
  /** Cells of CAPACITY 100 without OHMS, by PARTS. */
  static PackWatch parts(int... parts) {
    PackWatch x = set(new PackWatch(), 0, 4500, 1, 2000, 17, 2000);
    for (int p : parts) x.cell(100, p, 0);
    return x;
  }

  // ---- (4)

  static void shunts() {
    test("(4) SHUNTS: PART more than BAND above the least", () -> row("CELLS by BAND", n ->
        second(set(parts(500, 510, 511), 11, 1, 14, n)), x -> x.is(13), rows(0, 9, 10, 11, 999), 6, 6, 4, 0, 0));
    test("(4) SHUNTS AT ONCE at most, the greatest PARTS, of like ones by numbers", () -> row("CELLS by SHUNTS AT ONCE", n ->
        second(set(parts(500, 600, 700, 600, 600), 11, 1, 13, n)), x -> x.is(13), rows(0, 1, 2, 3, 4, 5, 16), 0, 4, 6, 14, 30, 30, 30));
    test("(4) SHUNTS AT ONCE 16: 15 are above the least", () -> row("CELLS by SHUNTS AT ONCE", n -> {
      PackWatch x = alike(16, 100, 600, 0);
      x.charge(7, 0);
      return second(set(x, 11, 1, 13, n, 17, 2000));
    }, x -> x.is(13), rows(14, 15, 16), 0x7f7f, 0xff7f, 0xff7f));
    test("(4) none, while the BOARD is at HOT or above", () -> row("CELLS by HOT at BOARD 250", n ->
        second(set(parts(500, 600), 11, 1, 2, n)), x -> x.is(13), rows(200, 249, 250, 251, 900), 0, 0, 0, 2, 2));
    test("(4) CHARGE is SHUNT less, 0 at least; what it lost is SHUNTED", () -> {
      int[] shunts = rows(0, 1079, 1080, 1081, 9999);
      row("CHARGE of 1080", n -> second(set(parts(0, 3), 11, 1, 14, 0, 12, n)), x -> x.of(1, 1), shunts, 1080, 1, 0, 0, 0);
      row("RECKONED CHARGE of 1080", n -> second(set(parts(0, 3), 11, 1, 14, 0, 12, n)), x -> x.of(1, 8), shunts, 1080, 1, 0, 0, 0);
      row("SHUNTED of 1080", n -> second(set(parts(0, 3), 11, 1, 14, 0, 12, n)), x -> x.is(9), shunts, 0, 1079, 1080, 1080, 1080);
    });
    test("(4) RECKONED CHARGE is SHUNT less by itself", () -> row("RECKONED CHARGE of 720, CHARGE of 1080", n -> {
      PackWatch x = parts(0, 2);
      x.charge(1, 1080);
      return second(set(x, 11, 1, 14, 0, 12, n));
    }, x -> x.of(1, 1) * 10000L + x.of(1, 8), rows(719, 720, 721, 1080), 3610001, 3600000, 3590000, 0));
    test("(4) the BOARD is 3 warmer for each", () -> row("BOARD by how many", n -> {
      PackWatch x = alike(16, 100, 600, 0);
      x.charge(0, 0);
      return second(set(x, 11, 1, 13, n, 17, 2000));
    }, x -> x.is(7), rows(0, 1, 5, 6, 15), 250, 253, 250 + 15, 250 + 18 - 1, 250 + 45 - 2));
    test("(4) the least of all and the BAND are of the PARTS ahead of the SHUNTS", () ->
        row("CELLS by PART of the third", n -> second(set(parts(500, 511, n), 11, 1, 14, 10, 12, 9999)), x -> x.is(13), rows(500, 510, 511, 512), 2, 2, 6, 6));
    test("(4) by MODE", () -> row("SHUNTED and MOVED by MODE", n -> second(set(parts(500, 600), 11, n)), x -> x.is(9) * 1000L + x.is(10),
        rows(0, 1, 2), 0, 100000, 500));
    test("(4) if no FAULT is latched", () -> {
      row("SHUNTED, LOOSE latched ahead of it", n -> second(set(second(set(parts(500, 600), 29, n)), 11, 1)), x -> x.is(9), rows(0, 1), 0, 100);
      row("MOVED, LOOSE latched ahead of it", n -> {
        PackWatch x = set(parts(500, 600), 29, n);
        x.run(2);
        return second(set(x, 11, 2));
      }, x -> x.is(10), rows(0, 1), 0, 500);
    });
  }

  static void shuttles() {
    test("(4) SHUTTLES: PARTS differ by more than BAND", () -> {
      row("MOVED from the second", n -> second(set(parts(500, 510), 11, 2, 14, n)), x -> x.is(10), rows(0, 9, 10, 11, 999), 500, 500, 0, 0, 0);
      row("MOVED from the first", n -> second(set(parts(510, 500), 11, 2, 14, n)), x -> x.is(10), rows(0, 9, 10, 11, 999), 500, 500, 0, 0, 0);
    });
    test("(4) SHUTTLE, or as much as it has, leaves", () -> row("MOVED of 1080, and what is left", n ->
        second(set(parts(3, 0), 11, 2, 14, 0, 15, n)), x -> x.is(10) * 10000L + x.of(0, 1), rows(0, 1079, 1080, 1081, 99999),
        1080, 10790001, 10800000, 10800000, 10800000));
    test("(4) SHARE of 100 of that (downward)", () -> {
      row("what comes, by SHARE of 99999", n -> second(set(parts(1000, 0), 11, 2, 15, 99999, 16, n)), x -> x.of(1, 1), rows(0, 1, 99, 100),
          0, 999, 98999, 99999);
      row("LOST, by SHARE of 99999", n -> second(set(parts(1000, 0), 11, 2, 15, 99999, 16, n)), x -> x.is(11), rows(0, 1, 99, 100),
          99999, 99000, 1000, 0);
      row("what comes, by SHUTTLE of 1", n -> second(set(parts(1000, 0), 11, 2, 15, n, 16, 1)), x -> x.of(1, 1), rows(0, 99, 100, 101, 199, 200), 0, 0, 1, 1, 1, 2);
    });
    test("(4) no more than there is room for", () -> row("what comes and LOST, room 400", SecondOfRoom::of, x -> x.of(1, 1) * 1000L + x.is(11),
        rows(0, 399, 400, 401, 1000), 359600000, 359999000, 360000000, 360000001, 360000600));
    test("(4) RECKONED CHARGE as much less, 0 at least", () -> row("RECKONED CHARGE of 1080", n -> {
      PackWatch x = parts(3, 0);
      x.charge(0, 3600);
      return second(set(x, 11, 2, 14, 0, 15, n));
    }, x -> x.of(0, 8), rows(1079, 1080, 1081), 1, 0, 0));
    test("(4) RECKONED CHARGE as much more, full at most", () -> row("RECKONED CHARGE of 358920", n -> {
      PackWatch x = parts(500, 997);
      due("RECKONED CHARGE", x.of(1, 8), 358920);
      x.charge(1, 0);
      return second(set(x, 11, 2, 14, 0, 15, n, 16, 100));
    }, x -> x.of(1, 8), rows(1079, 1080, 1081), 359999, 360000, 360000));
    test("(4) i from 0 on at odd TIMES, else from 1 on, 2 on each time", () -> {
      for (int cells = 0; cells <= 16; cells++) {
        int count = cells;
        row("MOVED of " + cells + " CELLS at TIMES 1, 2", n -> {
          PackWatch x = new PackWatch();
          for (int i = 0; i < count; i++) x.cell(1000, i % 2 == 0 ? 500 : 600, 0);
          x.run(n);
          set(x, 11, 2);
          return second(x);
        }, x -> x.is(10), rows(0, 1), count / 2 * 500L, count == 0 ? 0 : (count - 1) / 2 * 500L);
      }
    });
  }
  /** From a great CELL into one that lacks 400. */
  static final class SecondOfRoom {
    static PackWatch of(int shuttle) {
      PackWatch x = set(cells(9999, 1000, 0, 100, 500, 0), 0, 4500, 17, 2000, 11, 2, 14, 0, 15, shuttle, 16, 100);
      x.charge(1, 359600);
      return second(x);
    }
  }

  /**
   * Small CELLS, full in each SECOND by CURRENT, beside great ones that are emptied in time: of each pair 99999
   * leave, and with SHARE 0 all of it is LOST; 8 pairs at odd TIMES, 7 at even ones.
   */
  static void goingRound() {
    test("(4) MOVED, LOST: sums of 32 bits, going round", () -> {
      int[] told = new int[48];
      for (int i = 0; i < 16; i++) {
        told[3 * i] = i % 2 == 0 ? 100 : 9999;
        told[3 * i + 1] = i % 2 == 0 ? 1000 : 0;
      }
      PackWatch x = set(wide(told), 11, 2, 15, 99999, 16, 0, 20, 99999);
      long sum = 0;
      int below = 0;
      for (int time = 11; time < 9911; time += 300) {
        for (int i = 1; i < 16; i += 2) x.charge(i, 0);
        due("run(300) at " + time, x.run(300), 0);
        for (int t = time + 1; t <= time + 300; t++) sum += t % 2 == 1 ? 8 * 99999 : 7 * 99999;
        if ((int) sum < 0) below++;
        due("MOVED behind " + time, x.is(10), (int) sum);
        due("LOST behind " + time, x.is(11), (int) sum);
      }
      due("it went round more than once", sum > 3L * MAX && below > 5, true);
    });
  }

  // ---- (5), (6)

  static void board() {
    test("(5) the BOARD: (AMBIENT less BOARD) by 16 (toward 0) more", () -> row("BOARD of 250 by AMBIENT", n -> second(set(new PackWatch(), 6, n)),
        x -> x.is(7), rows(-400, 218, 219, 234, 235, 250, 265, 266, 281, 282, 600), 210, 248, 249, 249, 250, 250, 250, 251, 251, 252, 271));
  }

  static PackWatch stepped(int current) {
    PackWatch x = wide(1000, 500, 10);
    x.charge(0, 1802000);
    return second(set(x, 20, current));
  }

  static void measured() {
    test("(6) CURRENT 1000 or more away from that of the SECOND ahead; by it toward 0", () -> row("MEASURED", BalanceBoundsTest::stepped, x -> x.of(0, 15),
        rows(-1001, -1000, -999, -1, 0, 1, 999, 1000, 1001), 10, 10, NO_OHMS, NO_OHMS, NO_OHMS, NO_OHMS, NO_OHMS, 10, 9));
    test("(6) away from a CURRENT that isn't 0", () -> row("MEASURED behind 5000", n -> {
      PackWatch x = set(wide(9999, 500, 10), 20, 5000);
      x.charge(0, 18020000);
      second(x);
      x.cell(9999, 500, 20);
      x.charge(1, 18020000);
      second(x);
      return second(set(x, 20, n));
    }, x -> x.of(1, 15), rows(3999, 4000, 4001, 5000, 5999, 6000, 6001), 20, 20, NO_OHMS, NO_OHMS, NO_OHMS, 20, 19));
    test("(6) was there a SECOND since it was told", () -> row("MEASURED, so many SECONDS with it", n -> {
      PackWatch x = wide(9999, 500, 0);
      x.cell(9999, 500, 7);
      if (n > 1) x.run(n - 1);
      return second(set(x, 20, 1000));
    }, x -> x.of(1, 15), rows(1, 2, 3), NO_OHMS, 7, 7));
    test("(6) RESTED is one more at CURRENT 0, else 0", () -> {
      row("RESTED behind SECONDS", n -> at(cells(100, 500, 0), n), x -> x.is(8), rows(0, 1, 300), 0, 1, 300);
      row("RESTED of 11 by CURRENT", n -> second(set(wide(100, 500, 0), 20, n)), x -> x.is(8), rows(-99999, -1, 0, 1, 99999), 0, 0, 12, 0, 0);
    });
    test("(6) is it RESTING then, RECKONED CHARGE is by VOLTS", () -> {
      row("RECKONED CHARGE by OFFSET 10, RESTING 3", n -> at(set(cells(100, 500, 0), 18, 10, 19, 3), n), x -> x.of(0, 8), rows(0, 1, 2, 3, 4, 5, 6),
          180000, 180010, 180020, 180000, 180010, 180020, 180030);
      row("RECKONED CHARGE by OFFSET 10, RESTING 1", n -> at(set(cells(100, 500, 0), 18, 10, 19, 1), n), x -> x.of(0, 8), rows(1, 2), 180000, 180010);
      row("RECKONED CHARGE by OFFSET 10, RESTING 99", n -> at(set(cells(100, 500, 0), 18, 10, 19, 99), n), x -> x.of(0, 8), rows(98, 99, 100), 180980, 180000, 180010);
    });
    test("(6) the least PART whose REST is that or more", () -> row("RECKONED CHARGE by PART", n -> {
      PackWatch x = set(cells(100, 500, 0), 19, 1);
      x.charge(0, n * 360);
      return second(x);
    }, x -> x.of(0, 8), rows(0, 1, 499, 500, 501, 502, 599, 600, 999, 1000), 0, 360, 498 * 360, 180000, 180000, 502 * 360, 599 * 360, 600 * 360,
        999 * 360, 360000));
    test("(6) 1000 if none: VOLTS above 4200", () -> row("RECKONED CHARGE by POLAR 11, PART", n -> {
      PackWatch x = second(set(wide(100, 500, 0), 25, 99, 20, 1000));
      x.charge(0, n * 360);
      return second(set(x, 20, 0, 19, 1));
    }, x -> x.of(0, 8), rows(0, 992, 993, 994, 1000), 3 * 360, 999 * 360, 360000, 360000, 360000));
  }

  /** RESTING at PART 500, then PASSED 3600, then RESTING at that PART. */
  static PackWatch restingAt(int part) {
    PackWatch x = second(set(wide(100, 500, 0), 20, 3600));
    x.charge(0, part * 360);
    return second(set(x, 20, 0, 19, 1));
  }

  static void guesses() {
    test("(6) GUESS: 100 or more away from the one of the RESTING ahead", () -> row("GUESS by PART", BalanceBoundsTest::restingAt, x -> x.of(0, 16),
        rows(0, 398, 400, 402, 500, 599, 600, 602, 1000), 2, 9, 10, NONE, NONE, NONE, 10, 9, 2));
    test("(6) GUESS by PASSED without sign", () -> row("GUESS at 600 by PASSED", n -> {
      PackWatch x = second(set(wide(100, 500, 0), 20, n));
      x.charge(0, 216000);
      return second(set(x, 20, 0, 19, 1));
    }, x -> x.of(0, 16), rows(-99999, -3600, -3599, -1, 1, 3599, 3600, 99999), 277, 10, 9, 0, 0, 9, 10, 277));
    test("(6) GUESS: no RESTING ahead", () -> {
      PackWatch x = set(parts(500), 19, 1);
      x.charge(0, 360000);
      due("GUESS", second(x).of(0, 16), NONE);
    });
    test("(6) PASSED is 0 then", () -> row("PASSED of 3600 at RESTING", BalanceBoundsTest::restingAt, x -> x.of(0, 17), rows(0, 500, 599, 600), 0, 0, 0, 0));
    test("(6) PASSED stays till RESTING", () -> row("PASSED of 3600 behind SECONDS of CURRENT 0, RESTING 3", n -> {
      PackWatch x = second(set(wide(100, 500, 0), 20, 3600, 19, 3));
      set(x, 20, 0);
      x.run(n);
      return x;
    }, x -> x.of(0, 17), rows(1, 2, 3, 4), 3600, 3600, 0, 0));
  }

  static void taper() {
    test("(6) TAPER: VOLTS of a CELL at it or above", () -> row("REQUEST of 1000 by TAPER at 3700", n -> second(set(wide(1000, 500, 0), 20, 1000, 23, n)),
        x -> x.setting(20), rows(0, 1, 3699, 3700, 3701, 4500), 1000, 900, 900, 900, 1000, 1000));
    test("(6) TAPER: VOLTS at CURRENT", () -> row("REQUEST of 1000 by TAPER at 3710", n -> second(set(wide(1000, 500, 10), 20, 1000, 23, n)),
        x -> x.setting(20), rows(3700, 3709, 3710, 3711), 900, 900, 900, 1000));
    test("(6) REQUEST is times 9 by 10 (downward), 0 if that is below 100", () -> row("REQUEST", n -> second(set(wide(1000, 500, 0), 23, 1, 20, n)),
        x -> x.setting(20), rows(-99999, -1, 0, 1, 110, 111, 112, 113, 1111, 99999), -99999, -1, 0, 0, 0, 0, 100, 101, 999, 89999));
    test("(6) the BUS is PACK (at CURRENT)", () -> row("BUS", n -> second(set(wide(1000, 500, 10), 20, n)), x -> x.is(2), rows(0, 1, 100, 1000), 3700, 3700, 3701, 3710));
  }

  // ---- (7)

  static void faultsOfCells() {
    test("(7) HIGH: VOLTS above it", () -> row("FAULTS at 3700", n -> second(set(cells(100, 500, 0), 0, n)), x -> x.is(5), rows(3000, 3699, 3700, 3701, 4500), 1, 1, 0, 0, 0));
    test("(7) HIGH: VOLTS at CURRENT", () -> row("FAULTS at 3710", n -> second(set(wide(1000, 500, 10), 20, 1000, 0, n)), x -> x.is(5), rows(3709, 3710), 1, 0));
    test("(7) LOW: VOLTS below it", () -> row("FAULTS at 3600", n -> second(set(cells(100, 300, 0), 1, n)), x -> x.is(5), rows(2000, 3599, 3600, 3601, 3700), 0, 0, 0, 2, 2));
    test("(7) LOW: VOLTS at CURRENT", () -> row("FAULTS at 3590", n -> {
      PackWatch x = set(wide(9999, 300, 10), 20, -1000, 1, n);
      x.charge(0, 10810000);
      return second(x);
    }, x -> x.is(5), rows(3590, 3591), 0, 2));
    test("(7) HOT: WARMTH of a CELL above it", () -> row("FAULTS at 400", n -> {
      PackWatch x = set(new PackWatch(), 6, 400, 2, n);
      x.cell(100, 500, 0);
      return second(x);
    }, x -> x.is(5), rows(399, 400, 401, 900), 4, 0, 0, 0));
    test("(7) HOT: the BOARD above it", () -> row("FAULTS and CULPRIT at 250", n -> second(set(new PackWatch(), 2, n)), x -> x.is(5) * 10L + x.culprit(2),
        rows(200, 249, 250, 251), 39, 39, -1, -1));
    test("(7) COLD: CURRENT above 0, WARMTH below it", () -> {
      row("FAULTS by CURRENT at WARMTH -1", n -> cooled(0, n), x -> x.is(5), rows(-1, 0, 1), 0, 0, 8);
      row("FAULTS by COLD at WARMTH -1 of 0", n -> cooled(n, 1), x -> x.is(5), rows(-1, 0), 0, 8);
      row("no CURRENT when it is below COLD ahead of it", n -> cooled(n, 1), x -> x.is(5) * 10L + x.is(4), rows(1, 2), 0, 0);
    });
    test("(7) CULPRIT: the first CELL by which it is so", () -> {
      row("HIGH", n -> second(set(cells(100, 500, 0, 100, 600, 0, 100, 700, 0), 0, n)), x -> x.culprit(0), rows(3699, 3700, 3759, 3760, 3839, 3840), 0, 1, 1, 2, 2, NONE);
      row("LOW", n -> second(set(cells(100, 300, 0, 100, 200, 0, 100, 100, 0), 1, n)), x -> x.culprit(1), rows(3601, 3600, 3551, 3550, 3451, 3450), 0, 1, 1, 2, 2, NONE);
      row("HOT", n -> {
        PackWatch x = set(new PackWatch(), 6, 300);
        x.cell(100, 500, 0);
        set(x, 6, 260);
        x.cell(100, 500, 0);
        return second(set(x, 6, 280, 2, n));
      }, x -> x.culprit(2), rows(250, 259, 260, 261, 299, 300), 0, 0, 0, 0, 0, NONE);
      row("a CELL is ahead of the BOARD", n -> {
        PackWatch x = set(new PackWatch(), 6, n);
        x.cell(100, 500, 0);
        return second(set(x, 2, 240, 6, 250));
      }, x -> x.culprit(2), rows(239, 240, 241), NONE, NONE, 0);
    });
  }
  /** WARMTH 0 ahead of the SECOND, -1 behind it. */
  static PackWatch cooled(int cold, int request) {
    PackWatch x = wide(1000, 500, 0);
    x.warm(0, 0);
    return second(set(x, 6, -32, 3, cold, 20, request));
  }

  static void faultsOfPack() {
    test("(7) MUCH: CLOSED, and REQUEST beyond MOST either way", () -> {
      row("FAULTS by MOST 1000", n -> second(set(closed(1000, 500, 0), 4, 1000, 20, n)), x -> x.is(5), rows(-99999, -1001, -1000, -999, 0, 999, 1000, 1001, 99999),
          16, 16, 0, 0, 0, 0, 0, 16, 16);
      row("OPEN", n -> second(set(cells(1000, 500, 0), 4, 1, 20, n)), x -> x.is(5), rows(-2, 2, 99999), 0, 0, 0);
      row("PRECHARGE", n -> {
        PackWatch x = set(cells(1000, 500, 0), 4, 1, 20, n);
        x.close();
        return second(x);
      }, x -> x.is(5) * 10L + x.is(1), rows(-2, 2, 99999), PRECHARGE, PRECHARGE, PRECHARGE);
      row("OPEN with WELDED ones", n -> {
        PackWatch x = set(cells(1000, 500, 0), 4, 1, 20, n);
        x.stuck(0, 1);
        x.stuck(2, 1);
        return second(x);
      }, x -> x.is(5) * 10L + x.is(4), rows(-2, 2, 99999), -1, 1, 1);
    });
    test("(7) LEAK: OHMS OF INSULATION below LEAST INSULATION", () -> {
      row("in three SECONDS", n -> at(set(new PackWatch(), 9, n), 3), x -> x.is(5), rows(0, 499, 500, 501, 99999), 64, 64, 0, 0, 0);
      row("LEAST INSULATION 0", n -> at(set(new PackWatch(), 9, n, 10, 0), 3), x -> x.is(5), rows(0, 1), 0, 0);
      row("LEAST INSULATION 9999", n -> at(set(new PackWatch(), 9, n, 10, 9999), 3), x -> x.is(5), rows(9998, 9999, 10000), 64, 0, 0);
    });
    test("(7) LEAK: in this SECOND and both ahead of it", () -> {
      row("so many SECONDS", n -> at(set(new PackWatch(), 9, 499), n), x -> x.is(5), rows(1, 2, 3, 4), 0, 0, 64, 64);
      row("one between isn't", n -> {
        PackWatch x = at(set(new PackWatch(), 9, 499), n);
        second(set(x, 9, 500));
        set(x, 9, 499);
        x.run(2);
        return x;
      }, x -> x.is(5) * 10L + x.harm(1), rows(1, 2), 6, 6);
    });
    test("(7) APART: more than SPREAD above the least", () -> row("FAULTS at 20", n -> second(set(cells(100, 500, 0, 100, 520, 0), 17, n)), x -> x.is(5),
        rows(1, 19, 20, 21, 2000), 128, 128, 0, 0, 0));
    test("(7) APART: 0 is not more than SPREAD 1", () -> due("FAULTS", second(set(cells(100, 500, 0), 17, 1)).is(5), 0));
    test("(7) WELD: in this SECOND and the one ahead of it", () -> {
      row("so many SECONDS", n -> { PackWatch x = new PackWatch(); x.stuck(1, 1); return at(x, n); }, x -> x.is(5), rows(1, 2, 3), 0, 256, 256);
      row("one between isn't", n -> {
        PackWatch x = new PackWatch();
        x.stuck(n, 1);
        x.run(1);
        x.stuck(n, 0);
        x.run(1);
        x.stuck(n, 1);
        return second(x);
      }, x -> x.is(5) * 10L + x.harm(1), rows(0, 1, 2), 8, 8, 8);
      row("DEAD ones that are not ORDERED", n -> { PackWatch x = new PackWatch(); x.stuck(n, 2); return at(x, 5); }, x -> x.is(5), rows(0, 1, 2), 0, 0, 0);
      row("DEAD ones, CLOSED", n -> { PackWatch x = closed(100, 500, 0); x.stuck(n, 2); return at(x, 13); }, x -> x.is(5), rows(0, 1, 2), 256, 0, 256);
      row("WELDED ones, CLOSED", n -> { PackWatch x = closed(100, 500, 0); x.stuck(n, 1); return at(x, 13); }, x -> x.is(5), rows(0, 1, 2), 0, 256, 0);
    });
    test("(7) SILENT: more SECONDS than PATIENCE since HEARD", () -> {
      row("PATIENCE 5", n -> at(set(new PackWatch(), 28, 5), n), x -> x.is(5), rows(4, 5, 6, 7), 0, 0, 512, 512);
      row("PATIENCE 1", n -> at(set(new PackWatch(), 28, 1), n), x -> x.is(5), rows(1, 2), 0, 512);
      row("PATIENCE 999", n -> at(set(new PackWatch(), 28, 999), n), x -> x.is(5), rows(998, 999, 1000), 0, 0, 512);
      row("PATIENCE 0", n -> at(set(new PackWatch(), 28, 0), n), x -> x.is(5), rows(1, 1000, 9999), 0, 0, 0);
      row("HEARD", n -> {
        PackWatch x = at(set(new PackWatch(), 28, 5), 5);
        x.hear();
        x.run(n);
        return x;
      }, x -> x.is(5), rows(4, 5, 6), 0, 0, 512);
    });
    test("(7) LOOSE: INTERLOCK is 0", () -> row("FAULTS", n -> second(set(new PackWatch(), 29, n)), x -> x.is(5), rows(0, 1), 1024, 0));
    test("(7) the TIME of SECONDS at the end: WHEN", () -> row("WHEN", n -> second(set(at(new PackWatch(), n), 29, 0)), x -> x.when(10), rows(0, 9997, 9998), 1, 9998, 9999));
  }

  // ---- what is kept

  static void kept() {
    test("(7) the greatest and the least VOLTS (at CURRENT) of all SECONDS so far", () -> {
      int[] parts = rows(0, 499, 500, 501, 502, 1000);
      row("greatest of 3700 and", n -> told(n), x -> x.of(0, 11), parts, 3700, 3700, 3700, 3700, 3701, 4200);
      row("least of 3700 and", n -> told(n), x -> x.of(0, 12), parts, 3000, 3699, 3700, 3700, 3700, 3700);
    });
    test("(7) the TRACE: the latest 32", () -> {
      row("how many behind SECONDS", n -> at(new PackWatch(), n), x -> x.trace(NONE, 0), rows(0, 1, 31, 32, 33, 300), 0, 1, 31, 32, 32, 32);
      row("the eldest one is the SECOND of CURRENT 1", n -> {
        PackWatch x = second(set(closed(1000, 500, 0), 20, 1));
        set(x, 20, 2);
        if (n > 1) x.run(n - 1);
        return x;
      }, x -> x.trace(0, 0), rows(1, 21, 22, 32, 33), 0, 0, 0, 1, 2);
      row("the latest one", n -> second(set(at(closed(1000, 500, 0), n), 20, 5)), x -> x.trace(x.trace(NONE, 0) - 1, 0), rows(11, 30, 31, 32, 33), 5, 5, 5, 5, 5);
    });
    test("II. THE BOOK: the latest 24", () -> {
      row("how many lines", BalanceBoundsTest::booked, x -> x.book(NONE, 0), rows(0, 1, 23, 24, 25, 30), 0, 1, 23, 24, 24, 24);
      row("TIME of the eldest", BalanceBoundsTest::booked, x -> x.book(0, 0), rows(0, 1, 23, 24, 25, 30), -2, 1, 1, 1, 3, 13);
      row("TIME of the latest", BalanceBoundsTest::booked, x -> x.book(x.book(NONE, 0) - 1, 0), rows(1, 23, 24, 25, 30), 1, 45, 47, 49, 59);
    });
    test("II. by numbers in one SECOND, also when the eldest ones go", () -> {
      PackWatch x = booked(22);
      set(x, 29, 0, 28, 1, 9, 0, 10, 1);
      x.run(3);
      due("lines", x.book(NONE, 0), 24);
      int[] faults = rows(9, 10, 6);
      for (int i = 0; i < 3; i++) due("line " + (21 + i), x.book(21 + i, 1), faults[i]);
      due("the eldest", x.book(0, 0), 3);
    });
    test("(7) 32 TURNS at most are kept", () -> {
      row("how many", BalanceBoundsTest::widening, x -> x.of(0, 14), rows(0, 1, 30, 31, 32, 40), 1, 2, 31, 32, 32, 32);
      row("the eldest", BalanceBoundsTest::widening, x -> x.turn(0, 0), rows(0, 1, 30, 31, 32, 33, 40), 500, 500, 500, 500, 510, 480, 590);
      row("the latest", BalanceBoundsTest::widening, x -> x.turn(0, x.of(0, 14) - 1), rows(1, 30, 31, 32, 40), 510, 200, 810, 180, 100);
    });
    test("STEPS: the latest 20", () -> {
      row("steps()", BalanceBoundsTest::stepsTold, PackWatch::steps, rows(0, 1, 19, 20, 21, 40), 0, 1, 19, 20, 20, 20);
      row("undo()", BalanceBoundsTest::stepsTold, PackWatch::undo, rows(0, 1, 19, 20, 21, 40), NONE, 0, 18, 19, 19, 19);
      row("BAND when all are taken back", n -> {
        PackWatch x = stepsTold(n);
        while (x.undo() > 0) { }
        return x;
      }, x -> x.setting(14), rows(1, 19, 20, 21, 40), 10, 10, 10, 101, 120);
    });
    test("RESET: TIME is COOLING or more above WHEN", () -> {
      row("COOLING 10", n -> loose(10, n), x -> num(x.mayReset(10)) * 10 + num(x.reset(10)), rows(0, 9, 10, 11, 300), 0, 0, 11, 11, 11);
      row("COOLING 1", n -> loose(1, n), x -> num(x.mayReset(10)) * 10 + num(x.reset(10)), rows(0, 1, 2), 0, 11, 11);
      row("COOLING 99", n -> loose(99, n), x -> num(x.mayReset(10)) * 10 + num(x.reset(10)), rows(98, 99, 100), 0, 11, 11);
    });
  }
  static PackWatch told(int part) {
    PackWatch x = second(cells(100, 500, 0));
    x.charge(0, part * 360);
    return second(x);
  }
  /** LOOSE in each second SECOND, reset behind the one between: so many lines, of TIME 1, 3, .. */
  static PackWatch booked(int lines) {
    PackWatch x = set(new PackWatch(), 21, 1);
    for (int i = 0; i < lines; i++) {
      second(set(x, 29, 0));
      second(set(x, 29, 1));
      due("reset(10)", x.reset(10), true);
    }
    return x;
  }
  /** Turns back in each SECOND, ever farther: 510, 480, 530, .. */
  static PackWatch widening(int seconds) {
    PackWatch x = parts(500);
    for (int i = 1; i <= seconds; i++) {
      x.charge(0, (500 + (i % 2 == 1 ? 10 * i : -10 * i)) * 360);
      x.run(1);
    }
    return x;
  }
  static PackWatch stepsTold(int steps) {
    PackWatch x = new PackWatch();
    for (int i = 1; i <= steps; i++) x.set(14, 100 + i);
    return x;
  }
  static PackWatch loose(int cooling, int seconds) {
    PackWatch x = second(set(new PackWatch(), 29, 0, 21, cooling));
    set(x, 29, 1);
    if (seconds > 0) x.run(seconds);
    return x;
  }

  static PackWatch turning(int... parts) {
    PackWatch x = parts(parts[0]);
    for (int i = 1; i < parts.length; i++) {
      x.charge(0, parts[i] * 360);
      x.run(1);
    }
    return x;
  }

  static void turns() {
    test("(7) it goes on the way it went, or stands, or turns back", () -> {
      row("TURNS of 500 600", n -> turning(500, 600, n), x -> x.of(0, 14) * 1000L + x.turn(0, x.of(0, 14) - 1), rows(0, 599, 600, 601, 1000), 3000, 3599, 2600, 2601, 3000);
      row("TURNS of 500 400", n -> turning(500, 400, n), x -> x.of(0, 14) * 1000L + x.turn(0, x.of(0, 14) - 1), rows(0, 399, 400, 401, 1000), 2000, 2399, 2400, 3401, 4000);
      row("the second, as soon as it is another PART", n -> turning(500, 500, n), x -> x.of(0, 14), rows(0, 499, 500, 501, 1000), 2, 2, 1, 2, 2);
    });
    test("(7) the middle two differ by no more than the last two", () -> row("CYCLES of 100 by the last one", n -> turning(100, 300, 200, n), x -> x.cycles(0, 1) * 10L + x.of(0, 14),
        rows(201, 299, 300, 301, 1000), 4, 4, 12, 12, 12));
    test("(7) the middle two differ by no more than the first two", () -> row("CYCLES of 100 by the first one", n -> turning(n, 300, 200, 400), x -> x.cycles(0, 1) * 10L + x.of(0, 14),
        rows(299, 201, 200, 199, 0), 4, 4, 12, 12, 12));
    test("(7) downward first", () -> {
      row("by the last one", n -> turning(900, 700, 800, n), x -> x.cycles(0, 1) * 10L + x.of(0, 14), rows(701, 700, 699), 4, 12, 12);
      row("by the first one", n -> turning(n, 700, 800, 600), x -> x.cycles(0, 1) * 10L + x.of(0, 14), rows(799, 800, 801), 4, 12, 12);
    });
    test("(7) as long as there are four TURNS or more", () -> {
      PackWatch x = turning(0, 1000, 100, 900, 200, 800, 300, 700);
      due("TURNS", x.of(0, 14), 8);
      for (int k = 0; k <= 10; k++) due("CYCLES " + k, x.cycles(0, k), 0);
      x.charge(0, 0);
      x.run(1);
      due("TURNS", x.of(0, 14), 3);
      int[] counted = {0, 0, 0, 0, 1, 0, 1, 0, 1, 0, 0};
      for (int k = 0; k <= 10; k++) due("CYCLES " + k, x.cycles(0, k), counted[k]);
    });
    test("(7) with three TURNS none is counted", () -> {
      PackWatch x = turning(500, 600, 0);
      due("TURNS", x.of(0, 14), 3);
      for (int k = 0; k <= 10; k++) due("CYCLES " + k, x.cycles(0, k), 0);
    });
    test("27: CYCLES of 100 k to 100 k and 99", () -> {
      for (int of : rows(1, 99, 100, 101, 199, 200, 299, 300, 899, 900, 999, 1000)) {
        PackWatch x = turning(0, 1000, 1000 - of, 1000);
        for (int k = 0; k <= 10; k++) due("CYCLES " + k + " of one of " + of, x.cycles(0, k), k == of / 100 ? 1 : 0);
      }
    });
    test("(7) 32 TURNS and CYCLES of them", () -> {
      PackWatch x = widening(40);
      x.charge(0, 360000);
      x.run(1);
      due("TURNS: one more, the eldest one went", x.of(0, 14), 32);
      due("the eldest", x.turn(0, 0), 400);
      x.charge(0, 0);
      x.run(1);
      x.charge(0, 36000);
      x.run(1);
      due("the eldest", x.turn(0, 0), 380);
      x.charge(0, 0);
      x.run(1);
      due("CYCLE of 100", x.cycles(0, 1), 1);
      due("TURNS: the eldest one went, then two", x.of(0, 14), 30);
      due("the eldest", x.turn(0, 0), 630);
      due("the latest", x.turn(0, 29), 0);
    });
  }

  // ---- (8)

  static void rules() {
    test("(8) above (below) its limit now", () -> {
      int[] limits = rows(MIN, -1, 4, 5, 6, MAX);
      row("above, at TIME 5", n -> ruled(true, n), x -> x.setting(14), limits, 77, 77, 77, 10, 10, 10);
      row("below, at TIME 5", n -> ruled(false, n), x -> x.setting(14), limits, 10, 10, 10, 10, 77, 77);
    });
    test("(8) by numbers, each as all is now", () -> {
      PackWatch x = new PackWatch();
      for (int i = 0; i < 8; i++) x.rule(6, true, i, 14, 100 + i);
      for (int t = 1; t <= 9; t++) due("BAND at TIME " + t, second(x).setting(14), 100 + Math.min(t - 1, 7));
    });
  }
  static PackWatch ruled(boolean above, int limit) {
    PackWatch x = at(new PackWatch(), 4);
    x.rule(6, above, limit, 14, 77);
    return second(x);
  }

  public static void main(String[] args) {
    shunts();
    shuttles();
    goingRound();
    board();
    measured();
    guesses();
    taper();
    faultsOfCells();
    faultsOfPack();
    kept();
    turns();
    rules();
    finish("BalanceBoundsTest");
  }
}
