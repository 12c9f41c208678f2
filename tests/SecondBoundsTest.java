/**
 * A SECOND, place by place: each sentence that names a bound, tried at the bound, one below it and one above it.
 * What is due was reckoned by hand from the sentence that the test bears.
 */
public final class SecondBoundsTest extends Due {
  /** CLOSED at TIME 11 with LIMITS as wide as they can be. */
  static PackWatch wide(int... told) { return set(closed(told), 0, 4500, 1, 2000, 4, 99999, 5, 999); }
  static int[] rows(int... numbers) { return numbers; }

  // ---- TIME, (1)

  static void time() {
    test("TIME is one more", () -> row("TIME", n -> at(new PackWatch(), n), x -> x.is(6), rows(0, 1, 299, 300, 301), 0, 1, 299, 300, 301));
    test("TIME: 9999 at most", () -> row("run(1)", n -> at(new PackWatch(), n), x -> x.run(1) * 10000L + x.is(6), rows(9997, 9998, 9999),
        9998, 9999, -10000 + 9999));
    test("FORETOLD: TIME is 9999 at most", () -> row("foretold(2, 6)", n -> at(new PackWatch(), n), x -> x.foretold(2, 6),
        rows(9996, 9997, 9998, 9999), 9998, 9999, 9999, 9999));
  }

  /** PRECHARGE with PLUS DEAD, BUS 3700, one SECOND of the PART told. */
  static PackWatch precharge(int part) {
    PackWatch x = closed(1000, 500, 0);
    x.open();
    x.charge(0, part * 3600);
    x.stuck(2, 2);
    x.close();
    return second(x);
  }

  static void bus() {
    test("(1) MINUS and PLUS: the BUS is PACK (at CURRENT 0)", () -> row("BUS at 12 by PARTS", n -> {
      PackWatch x = closed(1000, 500, 0);
      x.charge(0, n * 3600);
      return second(x);
    }, x -> x.is(2), rows(0, 499, 500, 501, 502, 1000), 3000, 3699, 3700, 3700, 3701, 4200));
    test("(1) a quarter (upward) of what PACK has more: 0 .. 5 and 500 more", () -> row("BUS of 3700 by PART", SecondBoundsTest::precharge,
        x -> x.is(2), rows(500, 502, 504, 505, 507, 509, 1000), 3700, 3701, 3701, 3701, 3701, 3702, 3825));
    test("(1) 0, if PACK has not more", () -> row("BUS of 3700 by PART", SecondBoundsTest::precharge, x -> x.is(2), rows(501, 500, 499, 0),
        3700, 3700, 3700, 3700));
    test("(1) LOAD less, 0 at least", () -> row("BUS 750 less LOAD", n -> {
      PackWatch x = set(cells(1000, 0, 0), 7, n, 8, 0);
      x.close();
      return second(x);
    }, x -> x.is(2), rows(0, 1, 749, 750, 751, 9999), 750, 749, 1, 0, 0, 0));
    test("(1) else half of what it had (downward)", () -> row("BUS", n -> {
      PackWatch x = closed(1000, n, 0);
      x.open();
      return second(x);
    }, x -> x.is(2), rows(499, 500, 502), 1849, 1850, 1850));
    test("(1) half downward, to 0", () -> row("BUS behind SECONDS", n -> {
      PackWatch x = closed(1000, 500, 0);
      x.open();
      x.run(n);
      return x;
    }, x -> x.is(2), rows(9, 10, 11, 12, 13), 7, 3, 1, 0, 0));
    test("(1) half downward, below 0", () -> row("BUS -6374 behind SECONDS", n -> {
      PackWatch x = second(set(wide(100, 0, 0, 100, 0, 99), 25, 99, 20, -99999));
      due("BUS", x.is(2), -6374);
      x.open();
      x.run(n);
      return x;
    }, x -> x.is(2), rows(1, 2, 3, 14, 15, 16), -3187, -1594, -797, -1, -1, -1));
    test("(1) a quarter (upward) of what PACK has more than a BUS below 0; LOAD less, 0 at least", () -> {
      int[] loads = rows(0, 1, 1031, 1032, 1033, 9999);
      row("BUS -200, PACK 4726, by LOAD", SecondBoundsTest::below0, x -> x.is(2), loads, 1032, 1031, 1, 0, 0, 0);
    });
    test("(1) PACK below 0: the BUS gets nothing, LOAD less, 0 at least", () -> row("BUS 1125 by LOAD", n -> {
      PackWatch x = set(wide(9999, 1000, 0), 25, 99, 20, -99999);
      second(x);
      set(x, 20, -81829);
      second(x);
      charges(x, 9999 * 3600);
      set(x, 20, -99999);
      second(x);
      charges(x, 0);
      due("PACK (at CURRENT)", x.is(3), -70);
      due("BUS", x.is(2), 1125);
      return second(welded(set(x, 7, n)));
    }, x -> x.is(2), rows(0, 1, 1124, 1125, 1126), 1125, 1124, 1, 0, 0));
  }
  /** MINUS and PRE are closed, by whatever STATE. */
  static PackWatch welded(PackWatch x) {
    x.stuck(0, 1);
    x.stuck(1, 1);
    return x;
  }
  /** A BUS that five SECONDS have halved from -6374, then a SECOND behind PRE. */
  static PackWatch below0(int load) {
    PackWatch x = second(set(wide(100, 0, 0, 100, 0, 99), 25, 99, 20, -99999));
    x.open();
    x.run(5);
    due("BUS", x.is(2), -200);
    due("PACK", x.is(3), 4726);
    return second(welded(set(x, 7, load)));
  }

  static void precharges() {
    test("(1) in PRECHARGE, at 950 of 1000 of PACK or more: CLOSED", () -> {
      int[] loads = rows(184, 185, 186);
      row("STATE at BUS 3700 less LOAD", SecondBoundsTest::fallen, x -> x.is(1), loads, CLOSED, CLOSED, OPEN);
      row("FAULTS at BUS 3700 less LOAD", SecondBoundsTest::fallen, x -> x.is(5), loads, 0, 0, 32);
    });
    test("(1) else: not SLOPE or more above what it had: PRECHARGE", () -> {
      int[] slopes = rows(0, 1, 749, 750, 751, 9999);
      row("FAULTS at 750 more by SLOPE", SecondBoundsTest::sloping, x -> x.is(5), slopes, 0, 0, 0, 0, 32, 32);
      row("STATE at 750 more by SLOPE", SecondBoundsTest::sloping, x -> x.is(1), slopes, PRECHARGE, PRECHARGE, PRECHARGE, PRECHARGE, OPEN, OPEN);
    });
    test("(1) SLOPE is not asked for when it becomes CLOSED", () -> {
      PackWatch x = set(cells(1000, 500, 0), 8, 0);
      x.close();
      x.run(10);
      set(x, 8, 9999);
      due("run(1)", x.run(1), 0);
      due("STATE", x.is(1), CLOSED);
    });
    test("(1) SLOPE is not asked for when CLOSED or OPEN", () -> {
      due("CLOSED", set(closed(1000, 500, 0), 8, 9999).run(5), 0);
      due("OPEN", set(cells(1000, 500, 0), 8, 9999).run(5), 0);
    });
  }
  static PackWatch fallen(int load) {
    PackWatch x = closed(1000, 500, 0);
    x.open();
    set(x, 7, load);
    x.close();
    return second(x);
  }
  static PackWatch sloping(int slope) {
    PackWatch x = set(cells(1000, 0, 0), 8, slope);
    x.close();
    return second(x);
  }

  // ---- (2)

  static PackWatch asked(int request) { return second(set(closed(1000, 500, 0), 0, 3710, 1, 3690, 20, request)); }

  static void current() {
    test("(2) REQUEST, held to the LIMITS 2000, 2000", () -> row("CURRENT", SecondBoundsTest::asked, x -> x.is(4),
        rows(-99999, -2001, -2000, -1999, -1, 0, 1, 1999, 2000, 2001, 99999), -2000, -2000, -2000, -1999, -1, 0, 1, 1999, 2000, 2000, 2000));
    test("(2) HELD BACK: is CURRENT not REQUEST", () -> row("HELD BACK", SecondBoundsTest::asked, x -> x.of(0, 18),
        rows(-99999, -2001, -2000, -1999, 0, 1999, 2000, 2001, 99999), 1, 1, 0, 0, 0, 0, 0, 1, 1));
    test("(2) HELD BACK: if that LIMIT is no more than MOST", () -> {
      row("into, by MOST", n -> second(set(closed(1000, 500, 0), 0, 3710, 20, 3000, 4, n)), x -> x.of(0, 18), rows(1, 1999, 2000, 2001, 3000), 0, 0, 1, 1, 1);
      row("out of, by MOST", n -> second(set(closed(1000, 500, 0), 1, 3690, 20, -3000, 4, n)), x -> x.of(0, 18), rows(1, 1999, 2000, 2001, 3000), 0, 0, 1, 1, 1);
    });
    test("(2) HELD BACK: the CELL whose own LIMIT is least, the first of like ones", () -> row("the CELL by the PART of CELL 1", n -> {
      PackWatch x = closed(1000, 500, 0, 1000, 500, 0, 1000, 500, 0);
      x.charge(1, n * 3600);
      return second(set(x, 0, 3710, 20, 5000));
    }, x -> x.of(0, 18) + 10 * x.of(1, 18) + 100 * x.of(2, 18), rows(499, 500, 501, 502), 1, 1, 1, 10));
    test("(2) not HELD BACK: MINUS or PLUS is not ACTUAL", () -> row("HELD BACK with a DEAD one", n -> {
      PackWatch x = closed(1000, 500, 0);
      x.stuck(n, 2);
      return second(set(x, 0, 3710, 20, 5000));
    }, x -> x.of(0, 18) * 100000L + x.is(4), rows(0, 1, 2), 0, 102000, 0));
    test("(2) MINUS and PLUS by STATE as it is now: the SECOND that becomes CLOSED has CURRENT", () -> {
      PackWatch x = set(cells(1000, 500, 0), 8, 0, 20, 700);
      x.close();
      x.run(10);
      due("CURRENT in PRECHARGE", x.is(4), 0);
      x.run(1);
      due("CURRENT", x.is(4), 700);
    });
    test("(2) else 0", () -> row("CURRENT with stuck CONTACTORS", n -> {
      PackWatch x = set(cells(1000, 500, 0), 20, 700);
      for (int c = 0; c < 3; c++) x.stuck(c, (n >> c & 1));
      return second(x);
    }, x -> x.is(4), rows(0, 1, 2, 3, 4, 5, 6, 7), 0, 0, 0, 0, 0, 700, 0, 700));
  }

  // ---- (3)

  static void charge() {
    test("(3) CHARGE is CURRENT more, held to full", () -> row("CHARGE", n -> {
      PackWatch x = set(wide(100, 500, 0), 20, 3600);
      x.charge(0, 360000 - n);
      return second(x);
    }, x -> x.of(0, 1), rows(0, 3599, 3600, 3601, 360000), 360000, 360000, 360000, 359999, 3600));
    test("(3) CHARGE is CURRENT less, held to 0", () -> row("CHARGE", n -> {
      PackWatch x = set(wide(100, 500, 0), 20, -3600);
      x.charge(0, n);
      return second(x);
    }, x -> x.of(0, 1), rows(0, 3599, 3600, 3601, 360000), 0, 0, 0, 1, 356400));
    test("(3) SELF less, held to 0", () -> row("CHARGE", n -> {
      PackWatch x = set(cells(100, 500, 0), 27, 999);
      x.charge(0, n);
      return second(x);
    }, x -> x.of(0, 1), rows(0, 998, 999, 1000, 360000), 0, 0, 0, 1, 359001));
    test("(3) CURRENT and SELF together, then held", () -> row("CHARGE", n -> {
      PackWatch x = set(wide(100, 500, 0), 20, 3600, 27, 600);
      x.charge(0, 360000 - n);
      return second(x);
    }, x -> x.of(0, 1), rows(0, 2999, 3000, 3001), 360000, 360000, 360000, 359999));
    test("(3) RECKONED CHARGE: OFFSET more, full at most", () -> row("RECKONED CHARGE of 359001", n ->
        second(set(second(set(cells(100, 1000, 0), 18, -999)), 18, n)), x -> x.of(0, 8), rows(-999, 0, 998, 999), 358002, 359001, 359999, 360000));
    test("(3) RECKONED CHARGE: one more than full", () -> row("RECKONED CHARGE of 359002", n ->
        second(set(second(set(cells(100, 1000, 0), 18, -998)), 18, n)), x -> x.of(0, 8), rows(997, 998, 999), 359999, 360000, 360000));
    test("(3) RECKONED CHARGE: 0 at least", () -> row("RECKONED CHARGE of 998", n ->
        second(set(second(set(cells(100, 0, 0), 18, 998)), 18, n)), x -> x.of(0, 8), rows(-997, -998, -999), 1, 0, 0));
    test("(3) RECKONED CHARGE: CURRENT and OFFSET together, then held", () -> row("RECKONED CHARGE", n -> {
      PackWatch x = set(wide(100, 999, 0), 20, 1000, 18, n);
      due("RECKONED", x.of(0, 8), 359640);
      return second(x);
    }, x -> x.of(0, 8), rows(-641, -640, -639, 0), 359999, 360000, 360000, 360000));
  }

  static PackWatch warmed(int warmth) {
    PackWatch x = cells(1000, 500, 0);
    x.warm(0, warmth);
    return second(x);
  }

  static void warmth() {
    test("(3) (CURRENT by 1000, toward 0) times itself, times OHMS, by 500 (toward 0)", () -> {
      int[] currents = rows(-4000, -3999, -1, 0, 1, 3999, 4000, 4999, 5000);
      row("OHMS 50", n -> second(set(wide(1000, 500, 50), 20, n)), x -> x.of(0, 3), currents, 251, 250, 250, 250, 250, 250, 251, 251, 252);
    });
    test("(3) heat by OHMS", () -> row("CURRENT 10000", n -> second(set(wide(9999, 500, n), 20, 10000)), x -> x.of(0, 3),
        rows(0, 4, 5, 6, 9, 10, 99), 250, 250, 251, 251, 251, 252, 269));
    test("(3) the most heat: 99 times 99 times 99 by 500, then by 32", () -> {
      due("into", second(set(wide(9999, 500, 99), 20, 99999)).of(0, 3), 250 + 1940 - 60);
      due("out of", second(set(wide(9999, 500, 99), 20, -99999)).of(0, 3), 250 + 1940 - 60);
    });
    test("(3) (AMBIENT less WARMTH) by 32 (toward 0)", () -> row("WARMTH at AMBIENT 250", SecondBoundsTest::warmed, x -> x.of(0, 3),
        rows(-400, 186, 187, 217, 218, 219, 250, 281, 282, 283, 313, 314, 1200), -380, 188, 188, 218, 219, 219, 250, 281, 281, 282, 312, 312, 1171));
    test("(3) AMBIENT at its bounds", () -> row("WARMTH of 250", n -> second(set(cells(1000, 500, 0), 6, n)), x -> x.of(0, 3),
        rows(-400, 218, 219, 281, 282, 600), 230, 249, 250, 250, 251, 260));
    test("(3) times TOUCH by 256 (toward 0), 64: a quarter", () -> row("both WARMTHS", n -> {
      PackWatch x = set(cells(1000, 500, 0, 1000, 500, 0), 22, 64);
      x.warm(1, n);
      return second(x);
    }, x -> x.of(0, 3) * 1000L + x.of(1, 3), rows(246, 247, 250, 253, 254), 249247, 250247, 250250, 250253, 251253));
    test("(3) times TOUCH by 256 (toward 0), 1: 255, 256, 257 apart", () -> {
      row("warmer", n -> touched(n, 1), x -> x.of(0, 3) * 1000L + x.of(1, 3), rows(513, 514, 515), 250505, 251505, 251506);
      row("colder", n -> touched(n, 1), x -> x.of(0, 3) * 1000L + x.of(1, 3), rows(-13, -14, -15), 249995, 248995, 248994);
    });
    test("(3) TOUCH 0: nothing goes", () -> row("both WARMTHS", n -> touched(n, 0), x -> x.of(0, 3) * 1000L + x.of(1, 3),
        rows(250, 1200), 250250, 251171));
  }
  static PackWatch touched(int warmth, int touch) {
    PackWatch x = set(cells(1000, 500, 0, 1000, 500, 0), 22, touch);
    x.warm(1, warmth);
    return second(x);
  }

  static void polarAndThrough() {
    test("(3) POLAR: CURRENT times DRAG by 1000 (toward 0), by 8 (toward 0)", () -> {
      int[] currents = rows(-8999, -8000, -7999, -1, 0, 1, 7999, 8000, 15999, 16000);
      row("DRAG 1", n -> second(set(wide(9999, 500, 0), 25, 1, 20, n)), x -> x.of(0, 13), currents, -1, -1, 0, 0, 0, 0, 0, 1, 1, 2);
      row("CURRENT 1000, by DRAG", n -> second(set(wide(9999, 500, 0), 25, n, 20, 1000)), x -> x.of(0, 13), rows(0, 7, 8, 9, 98, 99), 0, 0, 1, 1, 12, 12);
    });
    test("(3) POLAR falls by 8 (toward 0), and stays below 8", () -> row("POLAR of 12 behind SECONDS", n -> {
      PackWatch x = second(set(wide(9999, 500, 0), 25, 99, 20, 1000));
      set(x, 20, 0);
      x.run(n);
      return x;
    }, x -> x.of(0, 13), rows(1, 4, 5, 6, 100), 11, 8, 7, 7, 7));
    test("(3) THROUGH is CURRENT without sign more", () -> row("THROUGH", n -> second(set(wide(9999, 500, 0), 20, n)), x -> x.of(0, 9),
        rows(-99999, -1, 0, 1, 99999), 99999, 1, 0, 1, 99999));
    int[] requests = rows(0, 3599, 3600, 3601, 7199, 7200, 7201);
    test("(3) THROUGH is FADE times 3600 or more: it is so much less", () -> row("THROUGH", n -> second(set(wide(1000, 500, 0), 24, 1, 20, n)),
        x -> x.of(0, 9), requests, 0, 3599, 0, 1, 3599, 0, 1));
    test("(3) CAPACITY is one less", () -> row("CAPACITY", n -> second(set(wide(1000, 500, 0), 24, 1, 20, -n)), x -> x.of(0, 0), requests,
        1000, 1000, 999, 999, 999, 998, 998));
    test("(3) CAPACITY: 100 at least", () -> {
      row("CAPACITY 101", n -> second(set(wide(101, 500, 0), 24, 1, 20, n)), x -> x.of(0, 0), requests, 101, 101, 100, 100, 100, 100, 100);
      row("CAPACITY 100", n -> second(set(wide(100, 500, 0), 24, 1, 20, n)), x -> x.of(0, 0), requests, 100, 100, 100, 100, 100, 100, 100);
      row("THROUGH goes down at 100, too", n -> second(set(wide(100, 500, 0), 24, 1, 20, n)), x -> x.of(0, 9), requests, 0, 3599, 0, 1, 3599, 0, 1);
    });
    test("(3) FADE 9999: 35996400", () -> row("CAPACITY and THROUGH behind SECONDS", n -> {
      PackWatch x = set(wide(9999, 0, 0), 24, 9999, 20, 99999);
      x.run(n - 100);
      x.run(100);
      return x;
    }, x -> x.of(0, 0) * 100000000L + x.of(0, 9), rows(359, 360), 999900000000L + 35899641, 999800000000L + 3240));
    test("(3) FADE 0: none", () -> row("CAPACITY", n -> second(set(wide(1000, 500, 0), 24, n, 20, 99999)), x -> x.of(0, 0),
        rows(0, 1, 27, 28, 9999), 1000, 973, 999, 1000, 1000));
    test("(3) CHARGE and RECKONED CHARGE are held to full", () -> row("CHARGE of 3600000 at CAPACITY 1000 less 2", n -> {
      PackWatch x = set(wide(1000, 1000, 0), 24, 1, 20, -7200);
      x.charge(0, n);
      return second(x);
    }, x -> x.of(0, 1) * 10000000L + x.of(0, 8), rows(3600000, 3599999, 3599400), 35928000000000L + 3585600, 35927990000000L + 3585600,
        35922000000000L + 3585600));
  }

  public static void main(String[] args) {
    time();
    bus();
    precharges();
    current();
    charge();
    warmth();
    polarAndThrough();
    finish("SecondBoundsTest");
  }
}
