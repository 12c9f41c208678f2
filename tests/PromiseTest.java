/** For each promise of the document some calls whose answers were reckoned by hand from its words. */
public final class PromiseTest {
  static final int NONE = -1, BAD = -1000000000, MAX = Integer.MAX_VALUE, MIN = Integer.MIN_VALUE;
  static int wrong = 0;
  static int promise = 0;

  static void due(String call, long got, long want) {
    if (got != want) {
      wrong++;
      System.out.println("promise " + promise + ": " + call + " answered " + got + ", due is " + want);
    }
  }
  static void due(String call, boolean got, boolean want) { due(call, got ? 1 : 0, want ? 1 : 0); }

  /** One call that may be tried with many numbers. */
  interface Ask { long of(int n); }
  static void dueOfAll(String call, long want, Ask ask, int... numbers) {
    for (int n : numbers) due(call + " with " + n, ask.of(n), want);
  }
  static long num(boolean b) { return b ? 1 : 0; }

  /** A pack whose cells (capacity, part, ohms) are all told; SLOPE is 0, so that precharge goes through. */
  static PackWatch pack(int... cells) {
    PackWatch x = new PackWatch();
    for (int i = 0; i + 2 < cells.length; i += 3) x.cell(cells[i], cells[i + 1], cells[i + 2]);
    x.set(8, 0);
    return x;
  }
  /** Such a pack, CLOSED at TIME 11 with REQUEST 0. */
  static PackWatch closed(int... cells) {
    PackWatch x = pack(cells);
    x.close();
    x.run(11);
    if (x.is(1) != 2) due("closed(): is(1)", x.is(1), 2);
    return x;
  }
  static void set(PackWatch x, int... pairs) {
    for (int i = 0; i + 1 < pairs.length; i += 2) due("set(" + pairs[i] + ", " + pairs[i + 1] + ")", x.set(pairs[i], pairs[i + 1]), true);
  }

  static void p1() {
    PackWatch x = new PackWatch();
    int[] first = {0, 0, 0, 0, 0, 0, 0, 250, 0, 0, 0, 0, 0, 0, 0, 0};
    for (int i = 0; i < 16; i++) due("is(" + i + ")", x.is(i), first[i]);
    int[] settings = {4200, 2900, 600, 0, 50000, 200, 250, 0, 20, 9999, 500, 0, 100, 4, 10, 500, 90, 900, 0, 10,
      0, 10, 0, 0, 0, 0, 0, 0, 0, 1};
    for (int i = 0; i < 30; i++) due("setting(" + i + ")", x.setting(i), settings[i]);
    due("steps()", x.steps(), 0);
    x.cell(100, 100, 1);
    x.set(6, -5);
    x.run(7);
    due("back()", x.back(), 0);
    due("is(0) behind back", x.is(0), 0);
    due("setting(6) behind back", x.setting(6), 250);
    due("steps() behind back", x.steps(), 0);
    for (int i = 0; i < 16; i++) due("is(" + i + ") behind back", x.is(i), first[i]);
    PackWatch other = new PackWatch();
    due("another one's is(0)", other.is(0), 0);
  }

  static void p2() {
    PackWatch x = new PackWatch();
    dueOfAll("cell capacity", NONE, n -> x.cell(n, 500, 5), 99, 10000, 0, -1, MAX, MIN);
    dueOfAll("cell part", NONE, n -> x.cell(500, n, 5), -1, 1001, MAX, MIN);
    dueOfAll("cell ohms", NONE, n -> x.cell(500, 500, n), -1, 100, MAX, MIN);
    due("steps() behind refused", x.steps(), 0);
    due("cell(100, 0, 0)", x.cell(100, 0, 0), 0);
    due("cell(9999, 1000, 99)", x.cell(9999, 1000, 99), 1);
    due("full", x.of(1, 1), 35996400);
    due("PART of full", x.of(1, 4), 1000);
    due("cell(101, 333, 7)", x.cell(101, 333, 7), 2);
    due("CHARGE downward", x.of(2, 1), 121078);
    due("PART downward", x.of(2, 4), 332);
    due("RECKONED CHARGE", x.of(2, 8), 121078);
    due("OHMS", x.of(2, 2), 7);
    due("WARMTH", x.of(2, 3), 250);
    x.set(6, -77);
    due("cell(200, 500, 0)", x.cell(200, 500, 0), 3);
    due("WARMTH is AMBIENT as it is", x.of(3, 3), -77);
    due("BOARD as it was", x.is(7), 250);
    for (int i = 4; i < 16; i++) due("cell " + i, x.cell(100, 10 * i, 0), i);
    due("a 17th", x.cell(100, 500, 0), NONE);
    due("is(0)", x.is(0), 16);
    due("the 16th is kept", x.of(15, 4), 150);
    due("steps() at most", x.steps(), 17);
  }

  static void p3() {
    PackWatch x = pack(100, 500, 0, 200, 500, 0);
    int before = x.steps();
    dueOfAll("charge of no cell", 0, n -> num(x.charge(n, 5)), -1, 2, 16, MAX, MIN);
    dueOfAll("charge beyond", 0, n -> num(x.charge(0, n)), -1, 360001, MAX, MIN);
    due("steps() behind refused", x.steps(), before);
    due("charge full", x.charge(0, 360000), true);
    due("PART", x.of(0, 4), 1000);
    due("REST", x.of(0, 5), 4200);
    due("RECKONED as it was", x.of(0, 7), 500);
    due("RECKONED CHARGE as it was", x.of(0, 8), 180000);
    due("charge 0", x.charge(1, 0), true);
    due("PART 0", x.of(1, 4), 0);
    due("REST 0", x.of(1, 5), 3000);
    due("charge 359", x.charge(0, 359), true);
    due("PART of 359", x.of(0, 4), 0);
    due("charge 360", x.charge(0, 360), true);
    due("PART of 360", x.of(0, 4), 1);
  }

  static void p4() {
    PackWatch x = pack(100, 500, 0);
    dueOfAll("warm of no cell", 0, n -> num(x.warm(n, 5)), -1, 1, MAX, MIN);
    dueOfAll("warm beyond", 0, n -> num(x.warm(0, n)), -401, 1201, MAX, MIN);
    due("warm least", x.warm(0, -400), true);
    due("WARMTH", x.of(0, 3), -400);
    due("warm most", x.warm(0, 1200), true);
    due("WARMTH", x.of(0, 3), 1200);
    due("BOARD is not it", x.is(7), 250);
  }

  static void p5() {
    int[][] bounds = {{3000, 4500}, {2000, 3700}, {200, 900}, {-400, 200}, {1, 99999}, {1, 999}, {-400, 600}, {0, 9999},
      {0, 9999}, {0, 99999}, {0, 9999}, {0, 2}, {0, 9999}, {0, 16}, {0, 999}, {0, 99999}, {0, 100}, {1, 2000}, {-999, 999},
      {1, 99}, {-99999, 99999}, {1, 99}, {0, 64}, {0, 4500}, {0, 9999}, {0, 99}, {0, 200}, {0, 999}, {0, 999}, {0, 1}};
    for (int w = 0; w < 30; w++) {
      int what = w;
      PackWatch x = new PackWatch();
      dueOfAll("set " + w, 0, n -> num(x.set(what, n)), bounds[w][0] - 1, bounds[w][1] + 1, MAX, MIN);
      due("steps() behind refused", x.steps(), 0);
      due("set least of " + w, x.set(w, bounds[w][0]), true);
      due("setting " + w, x.setting(w), bounds[w][0]);
      due("set most of " + w, x.set(w, bounds[w][1]), true);
      due("setting " + w, x.setting(w), bounds[w][1]);
      for (int o = 0; o < 30; o++) if (o != w) due("other " + o, x.setting(o), new PackWatch().setting(o));
    }
    PackWatch y = new PackWatch();
    dueOfAll("set of none", 0, n -> num(y.set(n, 1)), -1, 30, MAX, MIN);
  }

  static void p6() {
    PackWatch x = new PackWatch();
    dueOfAll("run", NONE, x::run, 0, -1, 301, MAX, MIN);
    due("TIME behind refused", x.is(6), 0);
    due("run(300)", x.run(300), 0);
    due("run(1)", x.run(1), 0);
    due("TIME", x.is(6), 301);
    for (int i = 0; i < 32; i++) x.run(300);
    due("TIME", x.is(6), 9901);
    due("run beyond 9999", x.run(99), NONE);
    due("run to 9999", x.run(98), 0);
    due("TIME", x.is(6), 9999);
    due("run(1) at the end", x.run(1), NONE);
    secondOne();
    secondTwo();
    secondThreeCharge();
    secondThreeHeat();
    secondThreeFade();
    secondFourShunts();
    secondFourShuttles();
    secondSixMeasured();
    secondSixResting();
    secondSixTaper();
    secondSevenFaults();
    secondSevenTurns();
    secondEightRules();
    greatNumbers();
    justAtBounds();
    sixteenCells();
  }

  static void greatNumbers() {
    PackWatch x = closed(1000, 500, 50);
    set(x, 0, 4500, 25, 80, 20, 10000);
    x.run(1);
    due("10 * 10 * 50 / 500", x.of(0, 3), 260);
    due("POLAR 800 by 8", x.of(0, 13), 100);
    PackWatch y = closed(9999, 1000, 99);
    set(y, 0, 4500, 5, 999, 4, 99999, 2, 900, 20, 99999);
    due("HIGH, HOT", y.run(1), 2);
    due("CURRENT", y.is(4), 99999);
    due("VOLTS", y.of(0, 6), 4200 + 9899);
    due("9899 * 1000 / 99999", y.of(0, 15), 98);
    due("250 and 1940, less 60", y.of(0, 3), 2130);
    due("nothing is let through", y.limit(1), 0);
    PackWatch z = closed(9999, 500, 0);
    set(z, 19, 2);
    z.run(1);
    z.open();
    z.close();
    z.run(1);
    set(z, 20, 49995);
    z.run(72);
    due("PART", z.of(0, 4), 600);
    set(z, 20, 0);
    z.run(1);
    due("RESTED of 2: none yet", z.of(0, 16), NONE);
    z.run(1);
    due("no RESTING ahead at 10: it was set behind it", z.of(0, 17), 0);
    due("GUESS", z.of(0, 16), 9999);
    PackWatch w = closed(100, 0, 0, 100, 0, 99);
    set(w, 4, 99999, 5, 999, 25, 99, 1, 2000, 17, 2000, 20, -99999);
    w.run(1);
    due("CURRENT", w.is(4), -99999);
    due("VOLTS far down: 3000 - 1237 - 9900", w.of(1, 6), 3000 - 1237 - 9900);
    due("POLAR", w.of(0, 13), -1237);
    due("BUS", w.is(2), 3000 - 1237 + 3000 - 1237 - 9900);
    w.open();
    w.run(1);
    due("BUS half, downward", w.is(2), -3187);
  }

  static void justAtBounds() {
    PackWatch a = closed(1000, 500, 0);
    a.open();
    set(a, 7, 185);
    a.close();
    due("3515 is 950 of 1000 of 3700", a.run(1), 0);
    due("CLOSED", a.is(1), 2);
    PackWatch b = closed(1000, 500, 0);
    b.open();
    set(b, 7, 186);
    b.close();
    due("3514 is less, and it falls", b.run(1), 1);
    due("PRECHARGE", b.is(5), 32);
    PackWatch c = closed(1000, 500, 0);
    c.open();
    c.charge(0, 0);
    c.stuck(2, 2);
    c.close();
    c.run(1);
    due("PACK has not more: nothing comes", c.is(2), 3700);
    PackWatch d = closed(102, 1000, 0);
    set(d, 24, 1, 20, -7200);
    d.run(1);
    due("CHARGE held to 360000", d.of(0, 1), 360000);
    due("RECKONED held to 360000, then less", d.of(0, 8), 352800);
    PackWatch e = closed(1000, 500, 0);
    set(e, 24, 1, 20, 3600);
    e.run(1);
    due("THROUGH is FADE times 3600", e.of(0, 0), 999);
    PackWatch f = new PackWatch();
    set(f, 6, 234);
    f.run(1);
    due("BOARD 16 by 16", f.is(7), 249);
    set(f, 6, 264);
    f.run(1);
    due("BOARD 15 by 16", f.is(7), 249);
    PackWatch g = closed(1000, 500, 0);
    set(g, 6, 0);
    g.warm(0, 0);
    set(g, 20, 1);
    due("at COLD", g.run(1), 0);
    set(g, 3, 1, 20, 0);
    due("below COLD without CURRENT", g.run(1), 0);
    set(g, 20, -100);
    due("below COLD out of it", g.run(1), 0);
    set(g, 3, 0, 6, -32, 20, 1);
    due("below COLD by CURRENT 1", g.run(1), 1);
    PackWatch h = closed(1000, 500, 0);
    set(h, 23, 1, 20, 1);
    h.run(1);
    due("TAPER 1, REQUEST 1", h.setting(20), 0);
    PackWatch i = pack(1000, 600, 0, 1000, 500, 0, 1000, 600, 0, 1000, 500, 0, 1000, 600, 0);
    set(i, 11, 2);
    int[] moved = {1000, 2000, 3000, 4000};
    int[] ofFirst = {2159500, 2159500, 2159000, 2159000};
    int[] ofLast = {2160000, 2159500, 2159500, 2159000};
    for (int t = 0; t < 4; t++) {
      i.run(1);
      due("0 at odd TIMES", i.of(0, 1), ofFirst[t]);
      due("4 at even TIMES", i.of(4, 1), ofLast[t]);
      due("two SHUTTLES a SECOND", i.is(10), moved[t]);
    }
    PackWatch j = pack(100, 500, 0);
    set(j, 0, 3000, 21, 1);
    j.run(1);
    set(j, 0, 4200);
    j.run(1);
    due("reset(0)", j.reset(0), true);
  }

  static void sixteenCells() {
    PackWatch x = pack();
    for (int i = 0; i < 16; i++) x.cell(1000, 500 + i, 1);
    x.close();
    due("run", x.run(12), 0);
    due("STATE", x.is(1), 2);
    set(x, 20, 1000, 23, 4000, 22, 9, 11, 1, 13, 16, 14, 0);
    x.run(1);
    due("all but the least", x.is(13), 0xfffe);
    set(x, 11, 2);
    x.run(4);
    due("SHUTTLES", x.is(10) > 0, true);
    x.mark(0);
    due("since of the last", x.since(0, 15, 0), x.of(15, 4));
    due("rank", x.rank(15), 0);
    x.warm(15, -1);
    due("worst", x.worst(0), 15);
    x.warm(15, 250);
    due("module", x.module(3, 3), 4);
    due("halves", x.halves(0), NONE);
    due("warnings", x.warnings(), 0);
    due("TAPER ends it", x.eta(0), NONE);
    set(x, 23, 0, 0, 4500, 17, 2000);
    due("eta(0)", x.eta(0) > 1700, true);
    due("hours", x.hours(1000, 99999), 1);
    due("flow(14)", x.flow(14) != BAD, true);
    due("flow(15)", x.flow(15), BAD);
  }

  static void secondOne() {
    PackWatch x = new PackWatch();
    x.cell(1000, 500, 0);
    set(x, 7, 100, 8, 620);
    x.close();
    due("precharge run", x.run(1), 0);
    due("a quarter less LOAD", x.is(2), 825);
    due("slope 619 of 620", x.run(1), 1);
    due("BUS, quarter upward", x.is(2), 1444);
    due("PRECHARGE is latched", x.is(5), 32);
    due("STATE", x.is(1), 0);
    due("when(5)", x.when(5), 2);
    x.run(1);
    due("BUS by half", x.is(2), 722);
    x.run(1);
    due("BUS by half", x.is(2), 361);
    x.run(1);
    due("BUS by half, downward", x.is(2), 180);
    due("PRECHARGE is so no more", x.when(5), 2);
    PackWatch y = new PackWatch();
    y.cell(1000, 500, 0);
    set(y, 7, 100, 8, 619);
    y.close();
    due("slope 619 of 619", y.run(2), 0);
    due("STATE", y.is(1), 1);
    PackWatch z = new PackWatch();
    z.cell(1000, 500, 0);
    set(z, 7, 9999, 8, 0);
    z.close();
    due("LOAD too great", z.run(1), 0);
    due("BUS 0 at least", z.is(2), 0);
    z.stuck(2, 1);
    due("PLUS WELDED", z.run(1), 0);
    due("CLOSED by PLUS", z.is(1), 2);
    due("BUS is PACK", z.is(2), 3700);
    PackWatch w = new PackWatch();
    w.cell(1000, 500, 0);
    set(w, 8, 0);
    w.close();
    w.run(10);
    due("3700 by 0.75^10", w.is(2) < 3515, true);
    due("STATE", w.is(1), 1);
    w.run(1);
    due("950 of 1000", w.is(1), 2);
    set(w, 7, 5);
    w.stuck(2, 2);
    due("PLUS DEAD", w.run(1), 0);
    due("CURRENT", w.is(4), 0);
    due("BUS by half", w.is(2), 1850);
    due("ACTUAL", w.is(14), 1);
    due("WELD in the second one", w.run(1), 1);
    due("WELD", w.is(5), 256);
  }

  static void secondTwo() {
    PackWatch x = closed(1000, 500, 0, 1000, 500, 0);
    set(x, 0, 3710, 20, 3000);
    x.run(1);
    due("CURRENT held to (3710 - 3700) * 200", x.is(4), 2000);
    due("held back by the first of like ones", x.of(0, 18), 1);
    due("not by the second", x.of(1, 18), 0);
    set(x, 20, 2000);
    x.run(1);
    due("CURRENT is REQUEST", x.is(4), 2000);
    due("not held back", x.of(0, 18), 1);
    set(x, 0, 4200, 1, 3690, 20, -2500);
    x.run(1);
    due("CURRENT out, 3700 still", x.is(4), -2000);
    due("held back out", x.of(0, 18), 2);
    set(x, 1, 2900, 4, 1000, 20, 1000);
    x.zone(0, 1000);
    x.run(1);
    due("CURRENT at the limit", x.is(4), 1000);
    due("not held back", x.of(0, 18), 2);
    set(x, 4, 2000, 20, 1500);
    x.run(1);
    due("held to the ZONE", x.is(4), 1000);
    due("counted", x.of(0, 18), 3);
    set(x, 4, 1000);
    x.set(20, 1001);
    due("MUCH", x.run(1), 1);
    due("MUCH is latched", x.is(5), 16);
    due("own LIMIT is MOST: counted", x.of(0, 18), 4);
    PackWatch y = closed(1000, 500, 0);
    set(y, 4, 1000, 20, 1001);
    y.run(1);
    due("CURRENT is MOST", y.is(4), 1000);
    due("own LIMIT above MOST: not counted", y.of(0, 18), 0);
    y.run(1);
    due("OPEN: no CURRENT", y.is(4), 0);
  }

  static void secondThreeCharge() {
    PackWatch x = closed(100, 500, 0);
    set(x, 27, 7, 18, 5, 20, 300);
    x.run(2);
    due("CHARGE with SELF", x.of(0, 1), 180000 + 2 * 293);
    due("RECKONED CHARGE with OFFSET", x.of(0, 8), 180000 + 2 * 305);
    due("THROUGH", x.of(0, 9), 600);
    due("PASSED", x.of(0, 17), 600);
    set(x, 20, -300);
    x.run(1);
    due("THROUGH without sign", x.of(0, 9), 900);
    due("PASSED", x.of(0, 17), 300);
    due("CHARGE", x.of(0, 1), 180000 + 2 * 293 - 307);
    PackWatch y = pack(100, 0, 0, 100, 1000, 0);
    set(y, 27, 999, 18, 999, 17, 2000);
    y.run(1);
    due("CHARGE 0 at least", y.of(0, 1), 0);
    due("RECKONED full at most", y.of(1, 8), 360000);
    due("RECKONED of OFFSET alone", y.of(0, 8), 999);
    due("CHARGE of SELF alone", y.of(1, 1), 359001);
    set(y, 18, -999);
    y.run(2);
    due("RECKONED 0 at least", y.of(0, 8), 0);
  }

  static void secondThreeHeat() {
    PackWatch x = closed(1000, 500, 50);
    set(x, 20, 5999);
    x.run(1);
    due("5 * 5 * 50 / 500", x.of(0, 3), 252);
    set(x, 20, -5999);
    x.run(1);
    due("the same out of it", x.of(0, 3), 254);
    PackWatch y = pack(1000, 500, 0, 1000, 500, 0, 1000, 500, 0);
    set(y, 22, 64);
    y.warm(2, 506);
    y.run(1);
    due("as it was", y.of(0, 3), 250);
    due("warmed by the next one", y.of(1, 3), 312);
    due("cooled", y.of(2, 3), 436);
    PackWatch z = pack(1000, 500, 0, 1000, 500, 0, 1000, 500, 0);
    set(z, 22, 64);
    z.warm(0, 506);
    z.run(1);
    due("498 less 62", z.of(0, 3), 436);
    due("312 less 15", z.of(1, 3), 297);
    due("250 and 15", z.of(2, 3), 265);
    PackWatch w = pack(1000, 500, 0);
    w.warm(0, 281);
    w.run(1);
    due("31 by 32, toward 0", w.of(0, 3), 281);
    w.warm(0, 186);
    w.run(1);
    due("64 by 32", w.of(0, 3), 188);
    PackWatch v = closed(1000, 500, 0);
    set(v, 25, 99, 20, 1000);
    v.run(1);
    due("POLAR 99 by 8", v.of(0, 13), 12);
    v.run(1);
    due("POLAR 87 by 8", v.of(0, 13), 22);
    set(v, 20, -1000);
    v.run(1);
    due("POLAR -121 by 8, toward 0", v.of(0, 13), 7);
    due("VOLTS with POLAR", v.of(0, 6), 3707);
    PackWatch u = closed(1000, 500, 3);
    set(u, 20, -500);
    u.run(1);
    due("VOLTS downward: -1.5", u.of(0, 6), u.of(0, 5) - 2);
  }

  static void secondThreeFade() {
    PackWatch x = closed(102, 1000, 0);
    set(x, 0, 4500, 24, 1, 20, 3599);
    x.run(1);
    due("CAPACITY", x.of(0, 0), 102);
    set(x, 20, 3601);
    x.run(1);
    due("CAPACITY two less", x.of(0, 0), 100);
    due("THROUGH is less", x.of(0, 9), 0);
    due("CHARGE held to full", x.of(0, 1), 360000);
    due("RECKONED held to full", x.of(0, 8), 360000);
    due("PART", x.of(0, 4), 1000);
    due("HEALTH", x.of(0, 10), 980);
    x.run(1);
    due("CAPACITY 100 at least", x.of(0, 0), 100);
    due("THROUGH", x.of(0, 9), 1);
    PackWatch y = closed(5000, 500, 0);
    set(y, 20, 36000);
    y.run(3);
    due("no FADE", y.of(0, 0), 5000);
    set(y, 24, 2, 20, 0);
    y.run(1);
    due("all lots at once", y.of(0, 0), 4985);
    due("THROUGH", y.of(0, 9), 0);
  }

  static void secondFourShunts() {
    PackWatch x = pack(1000, 500, 0, 1000, 520, 0, 1000, 530, 0, 1000, 520, 0, 1000, 510, 0);
    set(x, 11, 1, 13, 2);
    x.run(1);
    due("the greatest, then the first of like ones", x.is(13), 6);
    due("SHUNTED", x.is(9), 200);
    due("CHARGE", x.of(2, 1), 1908000 - 100);
    due("RECKONED CHARGE", x.of(2, 8), 1908000 - 100);
    due("BOARD 3 for each", x.is(7), 256);
    set(x, 13, 16);
    x.run(1);
    due("511 and more of BAND 10", x.is(13), 14);
    set(x, 13, 0);
    x.run(1);
    due("none at once", x.is(13), 0);
    set(x, 13, 4, 2, 250);
    int board = x.is(7);
    due("BOARD is above HOT", board >= 250, true);
    x.run(1);
    due("no SHUNT", x.is(13), 0);
    due("HOT by the BOARD", x.is(5), 4);
    due("CULPRIT is the BOARD", x.culprit(2), NONE);
    PackWatch v = pack(1000, 550, 0, 1000, 500, 0);
    set(v, 11, 1);
    v.run(1);
    due("CELL 0 is chosen, too", v.is(13), 1);
    due("CHARGE", v.of(0, 1), 1980000 - 100);
    PackWatch y = pack(100, 0, 0, 100, 11, 0);
    set(y, 11, 1, 12, 9999);
    y.charge(1, 3960);
    y.run(1);
    due("SHUNTED is what CHARGE lost", y.is(9), 3960);
    due("CHARGE 0 at least", y.of(1, 1), 0);
    due("RECKONED 0 at least", y.of(1, 8), 0);
    PackWatch z = pack(1000, 500, 0, 1000, 600, 0);
    set(z, 11, 1, 29, 0);
    z.run(1);
    due("ahead of the FAULT", z.is(13), 2);
    z.run(1);
    due("none with a FAULT", z.is(13), 0);
    due("SHUNTED", z.is(9), 100);
    PackWatch w = pack(1000, 500, 0, 1000, 600, 0);
    set(w, 11, 1, 2, 250);
    w.run(1);
    due("BOARD at HOT", w.is(13), 0);
    due("not above HOT", w.is(5), 0);
  }

  static void secondFourShuttles() {
    PackWatch x = pack(1000, 500, 0, 1000, 600, 0, 1000, 500, 0);
    set(x, 11, 2);
    x.run(1);
    due("0 and 1 at odd TIMES", x.of(0, 1), 1800450);
    due("leaves", x.of(1, 1), 2159500);
    due("not 2", x.of(2, 1), 1800000);
    due("RECKONED more", x.of(0, 8), 1800450);
    due("RECKONED less", x.of(1, 8), 2159500);
    due("MOVED", x.is(10), 500);
    due("LOST", x.is(11), 50);
    due("no SHUNTS", x.is(13), 0);
    x.run(1);
    due("1 and 2 at even TIMES", x.of(2, 1), 1800450);
    due("not 0", x.of(0, 1), 1800450);
    set(x, 14, 99);
    x.run(1);
    due("99.6 differ by 99", x.of(0, 4) + 99, x.of(1, 4));
    due("not more than BAND", x.is(10), 1000);
    PackWatch y = pack(100, 1000, 0, 100, 20, 0);
    set(y, 11, 2, 17, 2000, 15, 99999, 16, 33);
    y.run(1);
    due("what leaves", y.of(0, 1), 360000 - 99999);
    due("33 of 100, downward", y.of(1, 1), 7200 + 32999);
    due("LOST", y.is(11), 99999 - 32999);
    PackWatch z = pack(9999, 1000, 0, 100, 900, 0);
    set(z, 11, 2, 15, 99999, 16, 100, 17, 2000);
    z.run(1);
    due("no more than room", z.of(1, 1), 360000);
    due("MOVED", z.is(10), 99999);
    due("LOST", z.is(11), 99999 - 36000);
    PackWatch w = pack(100, 100, 0, 100, 0, 0);
    set(w, 11, 2, 15, 99999, 16, 0);
    w.run(1);
    due("as much as it has", w.is(10), 36000);
    due("all of it LOST", w.is(11), 36000);
    due("empty", w.of(0, 1), 0);
  }

  static void secondSixMeasured() {
    PackWatch x = closed(1000, 500, 10);
    due("none at first", x.of(0, 15), -1000000);
    set(x, 20, 999);
    x.run(1);
    due("999 is too little", x.of(0, 15), -1000000);
    set(x, 20, -1);
    x.run(1);
    due("1000 away: (3699 - 3709) * 1000 / -1000", x.of(0, 15), 10);
    x.cell(1000, 500, 20);
    set(x, 20, 3000);
    x.run(1);
    due("told behind that SECOND", x.of(1, 15), -1000000);
    due("(3730 - 3699) * 1000 / 3001", x.of(0, 15), 10);
    x.open();
    due("CURRENT by open", x.is(4), 0);
    x.run(1);
    due("CURRENT of the SECOND ahead counts, not of open()", x.of(1, 15), 20);
  }

  static void secondSixResting() {
    PackWatch x = pack(100, 500, 0);
    set(x, 19, 2, 18, 10);
    x.run(1);
    due("RECKONED by OFFSET", x.of(0, 8), 180010);
    x.run(1);
    due("RECKONED by VOLTS", x.of(0, 8), 180000);
    due("RESTED", x.is(8), 2);
    due("no GUESS yet", x.of(0, 16), NONE);
    x.run(1);
    due("only when it is RESTING", x.of(0, 8), 180010);
    set(x, 18, 0);
    x.close();
    x.run(11);
    set(x, 20, 3600);
    x.run(10);
    due("PASSED", x.of(0, 17), 36000);
    due("RESTED", x.is(8), 0);
    set(x, 20, 0);
    x.run(1);
    due("no GUESS yet", x.of(0, 16), NONE);
    x.run(1);
    due("GUESS", x.of(0, 16), 100);
    due("PASSED", x.of(0, 17), 0);
    set(x, 20, 360);
    x.run(99);
    set(x, 20, 0);
    x.run(2);
    due("99 is too little: GUESS as it was", x.of(0, 16), 100);
    due("PASSED is 0 at each RESTING", x.of(0, 17), 0);
    due("RECKONED: the least PART by REST", x.of(0, 8), x.partBy(x.of(0, 5)) * 360L);
    PackWatch y = pack(100, 501, 0);
    set(y, 19, 1);
    y.run(1);
    due("3700 is of 500, too", y.of(0, 7), 500);
  }

  static void secondSixTaper() {
    PackWatch x = closed(1000, 500, 0);
    set(x, 23, 3700, 20, 1111);
    x.run(1);
    due("CURRENT", x.is(4), 1111);
    due("REQUEST times 9 by 10", x.setting(20), 999);
    x.charge(0, 1700000);
    x.run(1);
    due("below TAPER", x.setting(20), 999);
    x.charge(0, 1850000);
    set(x, 20, 111);
    x.run(1);
    due("99 is 0", x.setting(20), 0);
    set(x, 20, 112);
    x.run(1);
    due("100 stays", x.setting(20), 100);
    set(x, 20, -5000);
    x.run(1);
    due("not below 0", x.setting(20), -5000);
    x.open();
    set(x, 20, 5000);
    x.run(1);
    due("not OPEN", x.setting(20), 5000);
  }

  static void secondSevenFaults() {
    PackWatch x = pack(1000, 500, 0, 1000, 600, 0);
    set(x, 0, 3760, 1, 3700);
    due("at both bounds", x.run(1), 0);
    set(x, 0, 3759);
    due("HIGH", x.run(1), 1);
    due("bits", x.is(5), 1);
    due("CULPRIT", x.culprit(0), 1);
    x.charge(0, 1796400);
    due("LOW", x.run(1), 1);
    due("bits", x.is(5), 3);
    due("CULPRIT", x.culprit(1), 0);
    due("WHEN of HIGH is later", x.when(0), 3);
    PackWatch y = pack(1000, 500, 0, 1000, 500, 0);
    y.warm(1, 600);
    due("at HOT", y.run(1), 0);
    y.warm(0, 621);
    y.warm(1, 1200);
    due("HOT", y.run(1), 1);
    due("CULPRIT is the first", y.culprit(2), 0);
    PackWatch z = closed(1000, 500, 0);
    z.warm(0, 0);
    set(z, 6, -400, 20, 1000);
    due("COLD: cools below it in the SECOND", z.run(1), 1);
    due("COLD", z.is(5), 8);
    due("CURRENT stays for this SECOND", z.is(4), 1000);
    due("BUS stays", z.is(2), 3700);
    due("STATE", z.is(1), 0);
    PackWatch w = pack(1000, 500, 0);
    set(w, 9, 499);
    due("LEAK in two", w.run(2), 0);
    set(w, 9, 500);
    due("not below", w.run(1), 0);
    set(w, 9, 499);
    due("LEAK in two", w.run(2), 0);
    due("LEAK in the third", w.run(1), 1);
    due("LEAK", w.is(5), 64);
    PackWatch v = pack(1000, 400, 0, 1000, 500, 0);
    set(v, 17, 100);
    due("not more than SPREAD", v.run(1), 0);
    set(v, 17, 99);
    due("APART", v.run(1), 1);
    due("APART", v.is(5), 128);
    PackWatch u = pack(1000, 500, 0);
    u.stuck(1, 1);
    due("WELD in one", u.run(1), 0);
    u.stuck(1, 0);
    u.run(1);
    u.stuck(1, 1);
    due("WELD in one again", u.run(1), 0);
    due("WELD in two", u.run(1), 1);
    due("WELD", u.is(5), 256);
    PackWatch t = pack(1000, 500, 0);
    set(t, 28, 2);
    due("SILENT of 2", t.run(2), 0);
    due("SILENT above 2", t.run(1), 1);
    due("SILENT", t.is(5), 512);
    set(t, 29, 0);
    due("LOOSE", t.run(3), 1);
    due("LOOSE", t.is(5), 1536);
    due("run tells each once", t.run(5), 0);
    PackWatch s = closed(1000, 500, 0);
    set(s, 4, 1000, 20, -1000);
    due("REQUEST at MOST", s.run(1), 0);
    set(s, 20, -1001);
    due("MUCH either way", s.run(1), 1);
    due("MUCH", s.is(5), 16);
  }

  static void secondSevenTurns() {
    PackWatch x = pack(100, 500, 0);
    due("the first TURN", x.of(0, 14), 1);
    due("where it was told", x.turn(0, 0), 500);
    int[] parts = {500, 510, 520, 520, 515, 505, 505, 530};
    int[] counts = {1, 2, 2, 2, 3, 3, 3, 2};
    int[] latest = {500, 510, 520, 520, 515, 505, 505, 530};
    for (int i = 0; i < parts.length; i++) {
      x.charge(0, parts[i] * 360);
      x.run(1);
      due("TURNS at " + i, x.of(0, 14), counts[i]);
      due("latest at " + i, x.turn(0, counts[i] - 1), latest[i]);
    }
    due("CYCLE of 15", x.cycles(0, 0), 1);
    x.charge(0, 100 * 360);
    x.run(1);
    x.charge(0, 300 * 360);
    x.run(1);
    x.charge(0, 200 * 360);
    x.run(1);
    due("500 530 100 300 200", x.of(0, 14), 5);
    x.charge(0, 900 * 360);
    x.run(1);
    due("200 less 100 is a CYCLE of 100, 530 less 100 goes on", x.cycles(0, 1), 1);
    due("500 530 100 900", x.of(0, 14), 4);
    due("the last one", x.turn(0, 3), 900);
    PackWatch y = pack(100, 500, 0);
    for (int i = 1; i <= 40; i++) {
      y.charge(0, (500 + (i % 2 == 1 ? 10 * i : -10 * i)) * 360);
      y.run(1);
    }
    due("32 at most", y.of(0, 14), 32);
    due("the eldest one went", y.turn(0, 0), 590);
    due("the latest one", y.turn(0, 31), 100);
  }

  static void secondEightRules() {
    PackWatch x = closed(1000, 500, 0);
    x.rule(6, true, 13, 20, 700);
    x.rule(4, false, 1, 14, 77);
    x.rule(6, true, 14, 20, 800);
    x.run(2);
    due("TIME 13 is not above 13", x.setting(20), 0);
    due("CURRENT below 1", x.setting(14), 77);
    x.run(1);
    due("TIME 14", x.setting(20), 700);
    due("not in this SECOND", x.is(4), 0);
    x.run(1);
    due("the later one wins", x.setting(20), 800);
    due("CURRENT of the first", x.is(4), 700);
  }

  static void p7() {
    PackWatch x = new PackWatch();
    due("close() without cells", x.close(), false);
    x.cell(100, 500, 0);
    due("close()", x.close(), true);
    due("STATE", x.is(1), 1);
    due("close() in PRECHARGE", x.close(), false);
    PackWatch y = closed(100, 500, 0);
    due("close() CLOSED", y.close(), false);
    set(y, 29, 0);
    y.run(1);
    due("STATE", y.is(1), 0);
    int before = y.steps();
    due("close() with a FAULT", y.close(), false);
    due("no STEP", y.steps(), before);
    set(y, 29, 1);
    y.run(10);
    y.reset(10);
    due("close() behind reset", y.close(), true);
  }

  static void p8() {
    PackWatch x = new PackWatch();
    due("open()", x.open(), false);
    due("no STEP", x.steps(), 0);
    PackWatch y = closed(1000, 500, 0);
    set(y, 20, 1000);
    y.run(1);
    due("CURRENT", y.is(4), 1000);
    due("open()", y.open(), true);
    due("STATE", y.is(1), 0);
    due("CURRENT", y.is(4), 0);
    due("BUS", y.is(2), 3700);
    due("open() again", y.open(), false);
    y.close();
    due("open() in PRECHARGE", y.open(), true);
  }

  static void p9() {
    PackWatch x = pack(100, 500, 0);
    dueOfAll("reset of none", 0, n -> num(x.reset(n)), -1, 11, 0, 10, 32, 33, MAX, MIN);
    set(x, 29, 0);
    x.run(1);
    set(x, 29, 1);
    x.run(9);
    due("9 above WHEN", x.reset(10), false);
    x.run(1);
    due("10 above WHEN", x.reset(9), false);
    due("reset(10)", x.reset(10), true);
    due("FAULTS", x.is(5), 0);
    due("reset again", x.reset(10), false);
    due("WHEN stays", x.when(10), 1);
    set(x, 21, 1, 29, 0, 28, 1);
    x.run(1);
    due("both", x.is(5), 1536);
    set(x, 28, 0);
    x.run(1);
    due("so anew: WHEN is now", x.reset(10), false);
    due("the other one", x.reset(9), true);
    due("the one stays", x.is(5), 1024);
  }

  static void p10() {
    PackWatch x = pack(100, 500, 0);
    dueOfAll("stuck contactor", 0, n -> num(x.stuck(n, 1)), -1, 3, MAX, MIN);
    dueOfAll("stuck how", 0, n -> num(x.stuck(0, n)), -1, 3, MAX, MIN);
    due("stuck(0, 1)", x.stuck(0, 1), true);
    due("ACTUAL", x.is(14), 1);
    x.stuck(1, 1);
    x.stuck(2, 1);
    due("ACTUAL", x.is(14), 7);
    x.stuck(0, 2);
    due("ACTUAL", x.is(14), 6);
    x.close();
    due("MINUS is DEAD", x.is(14), 6);
    x.stuck(0, 0);
    x.stuck(1, 0);
    x.stuck(2, 0);
    due("as ORDERED", x.is(14), 3);
    x.stuck(0, 1);
    x.stuck(2, 1);
    x.open();
    set(x, 20, 500);
    x.run(1);
    due("CURRENT flows though OPEN", x.is(4), 500);
    due("STATE", x.is(1), 0);
  }

  static void p11() {
    PackWatch x = new PackWatch();
    dueOfAll("zone warmth", NONE, n -> x.zone(n, 5), -401, 1201, MAX, MIN);
    dueOfAll("zone current", NONE, n -> x.zone(5, n), -1, 100000, MAX, MIN);
    due("zone(-400, 0)", x.zone(-400, 0), 1);
    due("not above the latest", x.zone(-400, 5), NONE);
    due("zone(-399, 99999)", x.zone(-399, 99999), 2);
    for (int i = 3; i <= 6; i++) due("zone " + i, x.zone(100 * i, i), i);
    due("a 7th", x.zone(1200, 1), NONE);
    due("ZONES", x.is(15), 6);
    PackWatch y = new PackWatch();
    due("zone(1200, 5)", y.zone(1200, 5), 1);
  }

  static void p12() {
    PackWatch x = new PackWatch();
    due("hear()", x.hear(), 0);
    x.run(7);
    due("hear()", x.hear(), 7);
    due("hear() again", x.hear(), 0);
    x.run(2);
    x.run(3);
    due("hear()", x.hear(), 5);
    due("a STEP each", x.steps(), 7);
    PackWatch y = new PackWatch();
    y.run(5);
    set(y, 28, 2);
    y.hear();
    due("SILENT of what was heard", y.run(2), 0);
    due("SILENT", y.run(1), 1);
  }

  static void p13() {
    PackWatch x = new PackWatch();
    dueOfAll("price hour", 0, n -> num(x.price(n, 5)), -1, 24, MAX, MIN);
    dueOfAll("price", 0, n -> num(x.price(5, n)), -1, 1000, MAX, MIN);
    for (int h = 0; h < 24; h++) due("price", x.price(h, h == 23 ? 999 : 10 + h), true);
    due("all of them", x.cheapest(24, 1, 0), 23 * 10 + 22 * 23 / 2 + 999);
    due("cheapest hour", x.cheapest(1, 1, 1), 1);
    due("price 0", x.price(23, 0), true);
    due("cheapest hour", x.cheapest(1, 1, 1), 1 << 23);
  }

  static void p14() {
    PackWatch x = pack(100, 500, 0);
    dueOfAll("mark", 0, n -> num(x.mark(n)), -1, 3, MAX, MIN);
    due("mark(2)", x.mark(2), true);
    due("PART then", x.since(2, 0, 0), 500);
    x.charge(0, 100 * 360);
    due("mark(2) anew", x.mark(2), true);
    due("PART then", x.since(2, 0, 0), 100);
    due("mark(0) is none", x.since(0, 0, 0), BAD);
  }

  static void p15() {
    PackWatch x = new PackWatch();
    dueOfAll("piece request", NONE, n -> x.piece(n, 5), -100000, 100000, MAX, MIN);
    dueOfAll("piece seconds", NONE, n -> x.piece(5, n), 0, 100, -1, MAX, MIN);
    due("piece least", x.piece(-99999, 1), 1);
    due("piece most", x.piece(99999, 99), 2);
    for (int i = 3; i <= 24; i++) due("piece", x.piece(i, 1), i);
    due("a 25th", x.piece(1, 1), NONE);
    due("PIECES", x.is(12), 24);
    due("the last", x.driveOf(23, 0), 24);
  }

  static void p16() {
    PackWatch x = new PackWatch();
    dueOfAll("rule what", NONE, n -> x.rule(n, true, 0, 0, 4000), -1, 14, MAX, MIN);
    dueOfAll("rule setting", NONE, n -> x.rule(0, true, 0, n, 1), -1, 30, MAX, MIN);
    dueOfAll("rule value", NONE, n -> x.rule(0, true, 0, 0, n), 2999, 4501, MAX, MIN);
    due("rule", x.rule(0, true, MAX, 0, 3000), 1);
    due("rule", x.rule(13, false, MIN, 29, 0), 2);
    x.run(1);
    due("neither", x.setting(0), 4200);
    due("neither", x.setting(29), 1);
    for (int i = 3; i <= 8; i++) due("rule", x.rule(0, false, 1, 4, i), i);
    due("a 9th", x.rule(0, false, 1, 4, 9), NONE);
    x.run(1);
    due("by numbers, the last wins", x.setting(4), 8);
    PackWatch y = new PackWatch();
    y.rule(0, true, 0, 14, 1);
    y.rule(0, false, 0, 14, 2);
    y.run(1);
    due("0 is neither above nor below 0", y.setting(14), 10);
  }

  static void p17() {
    PackWatch x = new PackWatch();
    due("unrule()", x.unrule(), 0);
    x.rule(0, false, 1, 14, 5);
    x.rule(0, false, 1, 14, 6);
    due("unrule()", x.unrule(), 2);
    x.run(1);
    due("not obeyed", x.setting(14), 10);
    due("ruleOf(-1, 0)", x.ruleOf(-1, 0), 0);
    x.undo();
    x.undo();
    x.run(1);
    due("taken back, obeyed", x.setting(14), 6);
  }

  static void p18() {
    PackWatch x = new PackWatch();
    due("wipe()", x.wipe(), 0);
    x.piece(1, 1);
    x.piece(2, 2);
    due("wipe()", x.wipe(), 2);
    due("PIECES", x.is(12), 0);
    due("drive()", x.drive(), NONE);
    due("piece", x.piece(7, 3), 1);
    due("driveOf", x.driveOf(0, 0), 7);
  }

  static void p19() {
    PackWatch x = closed(1000, 500, 0);
    due("drive() of none", x.drive(), NONE);
    x.piece(1000, 3);
    x.piece(-500, 2);
    due("drive()", x.drive(), 0);
    due("TIME", x.is(6), 16);
    due("CHARGE", x.of(0, 1), 1800000 + 3000 - 1000);
    due("REQUEST stays", x.setting(20), -500);
    due("PIECES stay", x.is(12), 2);
    set(x, 28, 18, 29, 0);
    due("FAULTS latched: LOOSE, then SILENT", x.drive(), 2);
    PackWatch y = new PackWatch();
    for (int i = 0; i < 33; i++) y.run(300);
    y.piece(0, 99);
    y.piece(0, 1);
    due("beyond 9999", y.drive(), NONE);
    due("TIME", y.is(6), 9900);
    y.wipe();
    y.piece(0, 99);
    due("to 9999", y.drive(), 0);
    due("TIME", y.is(6), 9999);
  }

  static void p20() {
    PackWatch x = new PackWatch();
    due("undo()", x.undo(), NONE);
    x.cell(1000, 500, 0);
    x.cell(1000, 600, 0);
    x.charge(0, 5);
    x.warm(0, 600);
    set(x, 11, 1, 28, 5);
    x.run(5);
    x.close();
    x.open();
    x.stuck(0, 1);
    x.zone(0, 5);
    x.hear();
    x.price(0, 5);
    x.mark(1);
    x.piece(5, 5);
    x.rule(0, true, 0, 14, 50);
    due("steps()", x.steps(), 16);
    x.run(1);
    due("the RULE", x.setting(14), 50);
    due("undo run", x.undo(), 16);
    due("the RULE undone", x.setting(14), 10);
    due("TIME", x.is(6), 5);
    due("undo rule", x.undo(), 15);
    due("RULES", x.ruleOf(-1, 0), 0);
    due("undo piece", x.undo(), 14);
    due("PIECES", x.is(12), 0);
    due("undo mark", x.undo(), 13);
    due("MARK", x.since(1, 0, 0), BAD);
    due("undo price", x.undo(), 12);
    due("PRICE", x.cheapest(24, 1, 0), 0);
    due("undo hear", x.undo(), 11);
    due("HEARD", x.foretold(1, 5), 512);
    due("undo zone", x.undo(), 10);
    due("ZONES", x.is(15), 0);
    due("undo stuck", x.undo(), 9);
    due("stuckAs", x.stuckAs(0), 0);
    due("undo open", x.undo(), 8);
    due("STATE", x.is(1), 1);
    due("undo close", x.undo(), 7);
    due("STATE", x.is(1), 0);
    due("undo run", x.undo(), 6);
    due("TIME", x.is(6), 0);
    due("SHUNTED", x.is(9), 0);
    due("TRACE", x.trace(-1, 0), 0);
    due("undo set", x.undo(), 5);
    due("undo set", x.undo(), 4);
    due("MODE", x.setting(11), 0);
    due("undo warm", x.undo(), 3);
    due("WARMTH", x.of(0, 3), 250);
    due("undo charge", x.undo(), 2);
    due("CHARGE", x.of(0, 1), 1800000);
    due("undo cell", x.undo(), 1);
    due("undo cell", x.undo(), 0);
    due("CELLS", x.is(0), 0);
    due("undo()", x.undo(), NONE);
    PackWatch y = new PackWatch();
    for (int i = 0; i < 25; i++) y.set(14, i);
    for (int i = 19; i >= 0; i--) due("undo", y.undo(), i);
    due("the 21st is gone", y.undo(), NONE);
    due("as ahead of the 20 latest", y.setting(14), 4);
    PackWatch z = pack(100, 500, 0);
    set(z, 29, 0);
    z.run(11);
    set(z, 29, 1, 21, 1);
    z.run(1);
    z.reset(10);
    z.undo();
    due("reset undone", z.is(5), 1024);
    due("BOOK", z.book(-1, 0), 1);
    z.piece(9, 2);
    z.drive();
    z.undo();
    due("drive undone", z.is(6), 12);
    due("REQUEST", z.setting(20), 0);
    z.wipe();
    z.undo();
    due("wipe undone", z.is(12), 1);
    PackWatch w = pack(1000, 500, 0, 1000, 600, 0);
    set(w, 11, 1);
    w.run(1);
    w.set(11, 0);
    w.run(1);
    due("none is shunted", w.is(13), 0);
    w.undo();
    due("CELLS that were shunted", w.is(13), 2);
    wholly();
    freshCells();
  }

  /** All that can be told of a pack. */
  static String all(PackWatch x) {
    StringBuilder told = new StringBuilder();
    for (int i = 0; i < 30; i++) told.append(x.setting(i)).append(' ').append(x.is(i)).append(' ');
    for (int c = 0; c < x.is(0); c++) {
      for (int i = 0; i < 19; i++) told.append(x.of(c, i)).append(' ');
      for (int i = 0; i < 32; i++) told.append(x.turn(c, i)).append(' ').append(x.cycles(c, i)).append(' ');
      for (int m = 0; m < 3; m++) for (int i = 0; i < 4; i++) told.append(x.since(m, c, i)).append(' ');
    }
    for (int i = -1; i < 33; i++) {
      for (int k = 0; k < 5; k++) {
        told.append(x.ruleOf(i, k)).append(' ').append(x.zoneOf(i, k)).append(' ').append(x.driveOf(i, k)).append(' ');
        told.append(x.trace(i, k)).append(' ').append(x.book(i, k)).append(' ');
      }
      told.append(x.culprit(i)).append(' ').append(x.when(i)).append(' ').append(x.stuckAs(i)).append(' ');
    }
    for (int h = 0; h <= 24; h++) told.append(x.cheapest(h, 12, 1)).append(' ');
    for (int f = 0; f < 8; f++) told.append(x.foretold(4, f)).append(' ').append(x.foretoldOf(4, 1, 5 + f)).append(' ');
    return told.append(x.steps()).toString();
  }

  /** A pack of which nearly nothing is as at first. */
  static PackWatch rich() {
    PackWatch x = closed(110, 500, 30, 120, 520, 0, 130, 480, 5);
    set(x, 24, 1, 25, 50, 22, 30, 19, 2, 18, 3, 11, 1, 14, 0, 0, 4500, 1, 2000);
    x.zone(-400, 30000);
    x.zone(300, 2500);
    x.rule(2, false, -5, 14, 3);
    x.price(7, 7);
    x.mark(1);
    int[] requests = {5000, -3000, 1500, 0, 3500, -1200, 0, 2600};
    for (int q : requests) { x.set(20, q); x.run(3); }
    x.set(11, 2);
    x.set(14, 2);
    x.run(2);
    x.warm(1, 310);
    x.set(20, 4000);
    x.run(1);
    x.stuck(1, 1);
    x.piece(2000, 3);
    x.set(28, 10);
    x.run(1);
    return x;
  }

  static void wholly() {
    PackWatch x = rich();
    String then = all(x);
    due("the same calls, the same answers", then.equals(all(rich())), true);
    int zeros = 0;
    for (int i = 0; i < 16; i++) if (x.is(i) == 0) zeros++;
    due("of is() 0: BOARD aside none but RESTED, SHUNTED now, STATE", zeros <= 4, true);
    x.image();
    due("image() changes nothing", then.equals(all(x)), true);
    x.set(14, 5);
    x.run(20);
    x.cell(500, 500, 5);
    x.mark(0);
    x.mark(1);
    x.set(29, 0);
    x.run(30);
    due("another one now", then.equals(all(x)), false);
    x.back();
    due("back() brings all", then.equals(all(x)), true);
    String before = then.substring(0, then.lastIndexOf(' '));
    x.piece(-2500, 9);
    x.drive();
    x.undo();
    x.undo();
    due("undo() brings all but the eldest STEP", all(x).startsWith(before), true);
    for (int n : new int[] {1, 2, 7, 40}) {
      int[] is = new int[16];
      int[][] of = new int[3][19];
      for (int i = 0; i < 16; i++) is[i] = x.foretold(n, i);
      for (int c = 0; c < 3; c++) for (int i = 0; i < 19; i++) of[c][i] = x.foretoldOf(n, c, i);
      x.run(n);
      for (int i = 0; i < 16; i++) due("foretold " + n + " of is " + i, is[i], x.is(i));
      for (int c = 0; c < 3; c++) for (int i = 0; i < 19; i++) due("foretold " + n + " of " + c + " " + i, of[c][i], x.of(c, i));
      x.undo();
    }
    int[] driven = new int[16];
    for (int i = 0; i < 16; i++) driven[i] = x.driven(i);
    x.drive();
    for (int i = 0; i < 16; i++) due("driven " + i, driven[i], x.is(i));
  }

  /** What was told of a cell that is taken back does not come again with the next one. */
  static void freshCells() {
    PackWatch x = rich();
    x.back();
    due("no CELLS", x.is(0), 0);
    x.cell(1000, 500, 7);
    int[] want = {1000, 1800000, 7, 250, 500, 3700, 3700, 500, 1800000, 0, 1000, NONE, NONE, 0, 1, -1000000, NONE, 0, 0};
    for (int i = 0; i < want.length; i++) due("of(0, " + i + ")", x.of(0, i), want[i]);
    for (int k = 0; k < 11; k++) due("cycles", x.cycles(0, k), 0);
    due("turn(0, 1)", x.turn(0, 1), NONE);
    x.set(20, 5000);
    x.stuck(0, 1);
    x.stuck(2, 1);
    x.run(1);
    due("no SECOND ahead of it", x.of(0, 15), -1000000);
    x.run(1);
    x.set(20, 0);
    x.run(10);
    due("no RESTING ahead of it", x.of(0, 16), NONE);
  }

  static void p21() {
    PackWatch x = closed(1000, 500, 10, 1000, 510, 10);
    dueOfAll("is", BAD, x::is, -1, 16, MAX, MIN);
    set(x, 20, 2000);
    x.run(2);
    x.piece(1, 1);
    x.zone(100, 9000);
    int[] want = {2, 2, 3720 + 3726, 3720 + 3726, 2000, 0, 13, 250, 0, 0, 0, 0, 1, 0, 5, 1};
    for (int i = 0; i < 16; i++) due("is(" + i + ")", x.is(i), want[i]);
    x.open();
    due("PACK at CURRENT 0", x.is(3), 3700 + 3706);
    due("BUS", x.is(2), 3720 + 3726);
    x.run(3);
    due("RESTED", x.is(8), 3);
    due("ACTUAL", x.is(14), 0);
  }

  static void p22() {
    PackWatch x = new PackWatch();
    dueOfAll("setting", BAD, x::setting, -1, 30, MAX, MIN);
    set(x, 20, -99999, 29, 0);
    due("setting(20)", x.setting(20), -99999);
    due("setting(29)", x.setting(29), 0);
    due("setting(0)", x.setting(0), 4200);
  }

  static void p23() {
    PackWatch x = closed(1000, 500, 10, 2000, 600, 0);
    dueOfAll("of cell", BAD, n -> x.of(n, 0), -1, 2, MAX, MIN);
    dueOfAll("of what", BAD, n -> x.of(0, n), -1, 19, MAX, MIN);
    set(x, 20, 3000);
    x.run(1);
    int[] want = {1000, 1803000, 10, 250, 500, 3700, 3730, 500, 1803000, 3000, 1000, 3730, 3700, 0, 1, 10, -1, 3000, 0};
    for (int i = 0; i < want.length; i++) due("of(0, " + i + ")", x.of(0, i), want[i]);
    set(x, 20, -3000);
    x.run(1);
    due("least VOLTS", x.of(0, 12), 3670);
    due("greatest VOLTS", x.of(0, 11), 3730);
    x.cell(100, 10, 1);
    due("VOLTS none yet", x.of(2, 11), NONE);
    due("VOLTS none yet", x.of(2, 12), NONE);
    due("VOLTS at CURRENT", x.of(2, 6), 3045 - 3);
    due("other CAPACITY", x.of(1, 0), 2000);
  }

  static void p24() {
    PackWatch x = new PackWatch();
    due("ruleOf(-1, 0)", x.ruleOf(-1, 0), 0);
    due("ruleOf(0, 0)", x.ruleOf(0, 0), BAD);
    x.rule(3, true, -7, 5, 6);
    x.rule(4, false, MIN, 20, -99999);
    int[][] want = {{3, 1, -7, 5, 6}, {4, 0, MIN, 20, -99999}};
    for (int i = 0; i < 2; i++) for (int k = 0; k < 5; k++) due("ruleOf(" + i + ", " + k + ")", x.ruleOf(i, k), want[i][k]);
    due("ruleOf(-1, 0)", x.ruleOf(-1, 0), 2);
    dueOfAll("ruleOf i", BAD, n -> x.ruleOf(n, 0), -2, 2, 8, MAX, MIN);
    dueOfAll("ruleOf what", BAD, n -> x.ruleOf(0, n), -1, 5, MAX, MIN);
  }

  static void p25() {
    PackWatch x = closed(1000, 500, 0, 1000, 520, 0, 1000, 490, 0, 1000, 500, 10, 1000, 600, 5);
    dueOfAll("module", BAD, n -> x.module(n, 3), -1, 2, 3, 4, MAX, MIN);
    dueOfAll("module what", BAD, n -> x.module(0, n), -1, 4, MAX, MIN);
    x.warm(2, 300);
    x.warm(4, 10);
    set(x, 20, 1000);
    x.run(1);
    due("VOLTS", x.module(0, 0), x.of(0, 6) + x.of(1, 6) + x.of(2, 6) + x.of(3, 6));
    due("VOLTS at CURRENT", x.module(1, 0), 3760 + 5);
    due("the most WARMTH", x.module(0, 1), 299);
    due("WARMTH of one", x.module(1, 1), 17);
    due("spread", x.module(0, 2), 30);
    due("spread of one", x.module(1, 2), 0);
    due("CELLS", x.module(0, 3), 4);
    due("CELLS", x.module(1, 3), 1);
  }

  static void p26() {
    PackWatch x = new PackWatch();
    x.zone(-5, 7);
    x.zone(9, 0);
    due("zoneOf(0, 0)", x.zoneOf(0, 0), -5);
    due("zoneOf(0, 1)", x.zoneOf(0, 1), 7);
    due("zoneOf(1, 0)", x.zoneOf(1, 0), 9);
    due("zoneOf(1, 1)", x.zoneOf(1, 1), 0);
    dueOfAll("zoneOf i", BAD, n -> x.zoneOf(n, 0), -1, 2, 6, MAX, MIN);
    dueOfAll("zoneOf what", BAD, n -> x.zoneOf(0, n), -1, 2, MAX, MIN);
  }

  static void p27() {
    PackWatch x = pack(100, 0, 0);
    set(x, 17, 2000, 1, 2000);
    for (int part : new int[] {1000, 0, 1000}) { x.charge(0, part * 360); x.run(1); }
    due("CYCLE of 1000", x.cycles(0, 10), 1);
    for (int k = 0; k < 10; k++) due("cycles", x.cycles(0, k), 0);
    for (int part : new int[] {801, 1000}) { x.charge(0, part * 360); x.run(1); }
    due("CYCLE of 199", x.cycles(0, 1), 1);
    for (int part : new int[] {800, 1000}) { x.charge(0, part * 360); x.run(1); }
    due("CYCLE of 200", x.cycles(0, 2), 1);
    dueOfAll("cycles cell", NONE, n -> x.cycles(n, 0), -1, 1, MAX, MIN);
    dueOfAll("cycles k", NONE, n -> x.cycles(0, n), -1, 11, MAX, MIN);
  }

  static void p28() {
    PackWatch x = pack(100, 500, 0);
    due("turn(0, 0)", x.turn(0, 0), 500);
    due("turn(0, 1)", x.turn(0, 1), NONE);
    x.charge(0, 0);
    due("not ahead of a SECOND", x.turn(0, 1), NONE);
    x.run(1);
    due("turn(0, 1)", x.turn(0, 1), 0);
    dueOfAll("turn cell", NONE, n -> x.turn(n, 0), -1, 1, MAX, MIN);
    dueOfAll("turn i", NONE, n -> x.turn(0, n), -1, 2, 32, MAX, MIN);
  }

  static void p29() {
    PackWatch x = new PackWatch();
    x.stuck(0, 1);
    x.stuck(2, 2);
    due("stuckAs(0)", x.stuckAs(0), 1);
    due("stuckAs(1)", x.stuckAs(1), 0);
    due("stuckAs(2)", x.stuckAs(2), 2);
    dueOfAll("stuckAs", NONE, x::stuckAs, -1, 3, MAX, MIN);
  }

  static void p30() {
    PackWatch x = new PackWatch();
    set(x, 17, 1, 26, 200);
    due("without cells", x.warnings(), 0);
    PackWatch y = pack(1000, 500, 0, 1000, 400, 0);
    set(y, 26, 50, 0, 3750, 1, 3600, 2, 300, 3, 200, 17, 150);
    due("all at the bounds", y.warnings(), 0);
    set(y, 0, 3749);
    due("HIGH", y.warnings(), 1);
    set(y, 1, 3601);
    due("HIGH, LOW", y.warnings(), 3);
    y.warm(1, 251);
    due("HOT", y.warnings(), 7);
    y.warm(0, 249);
    due("COLD", y.warnings(), 15);
    set(y, 17, 149);
    due("APART", y.warnings(), 143);
    PackWatch z = closed(1000, 500, 10);
    set(z, 20, 1000, 0, 3709);
    z.run(1);
    due("VOLTS at CURRENT", z.warnings(), 1);
    set(z, 0, 3710);
    due("not above", z.warnings(), 0);
    z.warm(0, 601);
    due("MARGIN 0", z.warnings(), 4);
    PackWatch w = pack(1000, 500, 0);
    set(w, 17, 1, 26, 200);
    due("a spread of 0 above -199", w.warnings(), 128);
  }

  static void p31() {
    PackWatch x = pack(1000, 500, 0, 2000, 520, 0, 333, 777, 0);
    due("need of the least", x.need(0), 0);
    due("need(1)", x.need(1), (7200000 / 1000 * 520 - 3600000) / 100);
    set(x, 12, 99);
    due("upward", x.need(1), 1455);
    due("need(2): 931467 less 599400 by 99", x.need(2), (931467 - 599400 + 98) / 99);
    set(x, 12, 0);
    due("SHUNT 0", x.need(1), NONE);
    due("SHUNT 0", x.need(0), NONE);
    set(x, 12, 1);
    dueOfAll("need", NONE, x::need, -1, 3, MAX, MIN);
    due("need(1)", x.need(1), 144000);
    set(x, 12, 9999);
    x.charge(1, 3600001);
    due("one above", x.need(1), 1);
    x.charge(1, 3600000);
    due("none above", x.need(1), 0);
  }

  static void p32() {
    PackWatch x = closed(1000, 500, 10, 1000, 530, 0);
    due("TRACE", x.trace(-1, 0), 11);
    set(x, 20, 1000);
    x.run(1);
    due("CURRENT", x.trace(11, 0), 1000);
    due("PACK", x.trace(11, 1), 3710 + 3718);
    due("spread", x.trace(11, 2), 30);
    due("the eldest", x.trace(0, 0), 0);
    dueOfAll("trace i", BAD, n -> x.trace(n, 0), -2, 12, 32, MAX, MIN);
    dueOfAll("trace what", BAD, n -> x.trace(0, n), -1, 3, MAX, MIN);
    x.run(50);
    due("32 at most", x.trace(-1, 0), 32);
    set(x, 20, 77);
    x.run(1);
    due("the latest", x.trace(31, 0), 77);
    due("the one ahead", x.trace(30, 0), 1000);
    x.open();
    x.run(31);
    due("the eldest kept", x.trace(0, 0), 77);
    PackWatch y = new PackWatch();
    y.run(1);
    due("without cells: PACK", y.trace(0, 1), 0);
    due("without cells: the spread as spread() has it", y.trace(0, 2), NONE);
  }

  static void p33() {
    PackWatch x = pack(1000, 500, 0, 1000, 600, 0, 1000, 600, 0);
    dueOfAll("culprit", NONE, x::culprit, -1, 0, 1, 2, 3, 4, 5, 11, MAX, MIN);
    set(x, 0, 3750, 1, 3700);
    x.charge(0, 1700000);
    x.run(1);
    due("HIGH", x.culprit(0), 1);
    due("LOW", x.culprit(1), 0);
    x.charge(1, 1700000);
    x.run(1);
    due("HIGH", x.culprit(0), 2);
    set(x, 0, 4200);
    x.run(1);
    due("as it was latest", x.culprit(0), 2);
    x.warm(2, 700);
    x.run(1);
    due("HOT", x.culprit(2), 2);
    x.warm(2, 250);
    x.run(1);
    due("HOT stays", x.culprit(2), 2);
    due("COLD none", x.culprit(3), NONE);
  }

  static void p34() {
    PackWatch x = closed(100, 500, 0);
    x.mark(1);
    set(x, 20, 3600);
    x.run(5);
    x.cell(100, 700, 0);
    due("PART then", x.since(1, 0, 0), 500);
    due("PART less", x.since(1, 0, 1), 50);
    due("THROUGH", x.since(1, 0, 2), 18000);
    due("SECONDS", x.since(1, 0, 3), 5);
    due("told behind it", x.since(1, 1, 0), BAD);
    due("told behind it", x.since(1, 1, 3), BAD);
    dueOfAll("since mark", BAD, n -> x.since(n, 0, 0), -1, 0, 2, 3, MAX, MIN);
    dueOfAll("since cell", BAD, n -> x.since(1, n, 0), -1, 1, 2, MAX, MIN);
    dueOfAll("since what", BAD, n -> x.since(1, 0, n), -1, 4, MAX, MIN);
    x.mark(0);
    due("the other MARK", x.since(0, 1, 0), 700);
    set(x, 24, 1, 20, 0);
    x.run(1);
    due("THROUGH as it stands: 18000 less 5 * 3600", x.since(0, 0, 2), -18000);
    PackWatch y = new PackWatch();
    y.mark(0);
    y.cell(100, 500, 0);
    due("a MARK without cells", y.since(0, 0, 3), BAD);
  }

  static void p35() {
    PackWatch x = pack(100, 500, 0, 100, 700, 0, 200, 500, 0, 100, 600, 0);
    int[] want = {1, 3, 0, 2};
    for (int i = 0; i < 4; i++) due("rank(" + i + ")", x.rank(i), want[i]);
    dueOfAll("rank", NONE, x::rank, -1, 4, 16, MAX, MIN);
  }

  static void p36() {
    PackWatch x = new PackWatch();
    due("middle()", x.middle(), NONE);
    x.cell(100, 900, 0);
    due("middle()", x.middle(), 900);
    x.cell(100, 100, 0);
    due("of two the lesser", x.middle(), 100);
    x.cell(100, 300, 0);
    due("of three", x.middle(), 300);
    x.cell(100, 800, 0);
    due("of four the lesser", x.middle(), 300);
    x.cell(100, 800, 0);
    due("of five", x.middle(), 800);
  }

  static void p37() {
    PackWatch x = new PackWatch();
    due("scatter()", x.scatter(), NONE);
    x.cell(100, 900, 0);
    due("scatter()", x.scatter(), 0);
    x.cell(100, 100, 0);
    x.cell(100, 300, 0);
    due("scatter()", x.scatter(), 600 + 200);
    x.cell(100, 1000, 0);
    due("scatter()", x.scatter(), 600 + 200 + 700);
  }

  static void p38() {
    PackWatch x = new PackWatch();
    due("goal()", x.goal(), NONE);
    x.cell(100, 1000, 0);
    x.cell(9999, 0, 0);
    due("by CHARGES, not PARTS", x.goal(), 9);
    x.charge(1, 35996400);
    due("full", x.goal(), 1000);
    x.charge(1, 35996399);
    due("downward", x.goal(), 999);
  }

  static void p39() {
    PackWatch x = pack(100, 1000, 0, 300, 0, 0, 101, 0, 0);
    due("goal()", x.goal(), 199);
    due("flow(0)", x.flow(0), 360000 - 71640);
    due("flow(1)", x.flow(1), 360000 - 71640 - 214920);
    dueOfAll("flow", BAD, x::flow, -1, 2, 3, MAX, MIN);
    PackWatch y = pack(101, 333, 0, 101, 333, 0);
    due("each downward", y.flow(0), 121078 - 332 * 101 * 36 / 10);
    PackWatch z = pack(100, 1, 0);
    due("one cell", z.flow(0), BAD);
  }

  static void p40() {
    PackWatch x = new PackWatch();
    due("halves(0)", x.halves(0), NONE);
    x.cell(100, 100, 0);
    due("an odd number", x.halves(0), NONE);
    x.cell(100, 200, 0);
    due("halves(0)", x.halves(0), 1);
    due("halves(1)", x.halves(1), 36000);
    x.cell(100, 300, 0);
    due("an odd number", x.halves(1), NONE);
    x.cell(100, 400, 0);
    due("100 and 400", x.halves(0), 9);
    due("none apart", x.halves(1), 0);
    dueOfAll("halves", NONE, x::halves, -1, 2, MAX, MIN);
    PackWatch y = pack(100, 500, 0, 100, 500, 0, 100, 500, 0, 100, 500, 0, 100, 500, 0, 100, 500, 0, 100, 500, 0, 100, 500, 0);
    due("the least bits", y.halves(0), 15);
    y.cell(100, 500, 0);
    due("nine", y.halves(0), NONE);
    y.cell(100, 500, 0);
    due("ten", y.halves(0), NONE);
  }

  static void p41() {
    PackWatch x = new PackWatch();
    dueOfAll("cheapest k", NONE, n -> x.cheapest(n, 1, 0), -1, 25, MAX, MIN);
    dueOfAll("cheapest m", NONE, n -> x.cheapest(1, n, 0), 0, 13, -1, MAX, MIN);
    dueOfAll("cheapest what", NONE, n -> x.cheapest(1, 1, n), -1, 2, MAX, MIN);
    due("none of them", x.cheapest(0, 12, 1), 0);
    due("all of them", x.cheapest(24, 12, 1), 0xffffff);
    for (int h = 0; h < 24; h++) x.price(h, h % 2 == 0 ? 1 : 900);
    due("twelve stretches", x.cheapest(12, 12, 0), 12);
    due("twelve stretches", x.cheapest(12, 12, 1), 0x555555);
    due("eleven of them: one pair", x.cheapest(12, 11, 0), 11 + 900);
    due("eleven of them: the least bits", x.cheapest(12, 11, 1), 0x155557);
    due("one stretch of 2", x.cheapest(2, 1, 1), 3);
    due("one stretch of 3", x.cheapest(3, 1, 0), 902);
    due("one stretch of 3", x.cheapest(3, 1, 1), 7);
    for (int h = 0; h < 24; h++) x.price(h, 500);
    x.price(0, 0);
    x.price(23, 0);
    due("23 and 0 are none", x.cheapest(2, 1, 0), 500);
    due("two stretches", x.cheapest(2, 2, 1), 0x800001);
    due("m is at most", x.cheapest(1, 12, 1), 1);
    due("a dear stretch", x.cheapest(23, 1, 0), 22 * 500);
  }

  static void p42() {
    PackWatch x = new PackWatch();
    due("without cells", x.hours(1000, 1), 0);
    PackWatch y = pack(100, 500, 0);
    due("an hour of 50", y.hours(1000, 50), 1);
    y.charge(0, 179999);
    due("one more", y.hours(1000, 50), 2);
    x.cell(9999, 0, 0);
    x.cell(100, 500, 0);
    due("hours", x.hours(1000, 9999), 1);
    due("hours upward", x.hours(1000, 9998), 2);
    due("hours most", x.hours(1000, 1), 9999);
    due("nothing lacks", x.hours(0, 1), 0);
    x.charge(0, 35996400);
    due("by the other one", x.hours(1000, 49), 2);
    due("lacks nothing", x.hours(500, 1), 0);
    due("lacks 360", x.hours(501, 99999), 1);
    dueOfAll("hours part", NONE, n -> x.hours(n, 5), -1, 1001, MAX, MIN);
    dueOfAll("hours current", NONE, n -> x.hours(5, n), 0, 100000, -1, MAX, MIN);
  }

  static void p43() {
    PackWatch x = new PackWatch();
    due("energy()", x.energy(), 0);
    x.cell(100, 500, 9);
    due("180000 * 3700 / 3600000", x.energy(), 185);
    x.charge(0, 179000);
    due("PART 497: 179000 * 3698 / 3600000", x.energy(), 183);
    x.cell(100, 497, 0);
    due("together, then by", x.energy(), (179000L * 3698 + 178920L * 3698) / 3600000);
    for (int i = 2; i < 16; i++) x.cell(9999, 1000, 0);
    due("of many", x.energy(), (179000L * 3698 + 178920L * 3698 + 14L * 35996400 * 4200) / 3600000);
  }

  static void p44() {
    PackWatch x = new PackWatch();
    due("below(1000)", x.below(1000), 0);
    x.cell(100, 0, 0);
    x.cell(100, 500, 0);
    x.cell(100, 1000, 0);
    due("below(0)", x.below(0), 0);
    due("below(1)", x.below(1), 1);
    due("below(500)", x.below(500), 1);
    due("below(501)", x.below(501), 2);
    due("below(1000)", x.below(1000), 2);
    dueOfAll("below", NONE, x::below, -1, 1001, MAX, MIN);
  }

  static void p45() {
    PackWatch x = new PackWatch();
    int[] curve = {3000, 3450, 3550, 3600, 3650, 3700, 3760, 3840, 3930, 4040, 4200};
    for (int i = 0; i <= 10; i++) due("rest", x.rest(100 * i), curve[i]);
    due("rest(1)", x.rest(1), 3004);
    due("rest(99)", x.rest(99), 3445);
    due("rest(399)", x.rest(399), 3649);
    due("rest(999)", x.rest(999), 4198);
    dueOfAll("rest", NONE, x::rest, -1, 1001, MAX, MIN);
  }

  static void p46() {
    PackWatch x = new PackWatch();
    due("partBy least int", x.partBy(MIN), 0);
    due("partBy(3000)", x.partBy(3000), 0);
    due("partBy(3004)", x.partBy(3004), 1);
    due("partBy(3005)", x.partBy(3005), 2);
    due("partBy(3700)", x.partBy(3700), 500);
    due("partBy(3701)", x.partBy(3701), 502);
    due("partBy(4198)", x.partBy(4198), 999);
    due("partBy(4199)", x.partBy(4199), 1000);
    due("partBy(4200)", x.partBy(4200), 1000);
    due("partBy(4201)", x.partBy(4201), 1000);
    due("partBy greatest int", x.partBy(MAX), 1000);
    for (int v = 2990; v < 4210; v++) {
      int p = x.partBy(v);
      due("REST of partBy " + v, p == 1000 || x.rest(p) >= v, true);
      due("the least " + v, p == 0 || x.rest(p - 1) < v, true);
    }
  }

  static void p47() {
    PackWatch x = new PackWatch();
    due("without cells", x.limit(0), NONE);
    x.cell(1000, 500, 0);
    due("MOST", x.limit(0), 50000);
    set(x, 4, 99999);
    due("into: 500 * 200", x.limit(0), 99999);
    set(x, 5, 100);
    due("into: 500 * 100", x.limit(0), 50000);
    due("out of: 800 * 100", x.limit(1), 80000);
    x.cell(1000, 600, 0);
    due("into: 440 * 100", x.limit(0), 44000);
    due("out of: the least", x.limit(1), 80000);
    x.warm(0, 590);
    due("HOT: 10 * 500", x.limit(0), 5000);
    due("HOT: 10 * 500", x.limit(1), 5000);
    x.warm(0, 700);
    due("0 at least", x.limit(0), 0);
    due("0 at least", x.limit(1), 0);
    x.warm(0, -1);
    due("below COLD", x.limit(0), 0);
    due("out of: not by COLD", x.limit(1), 80000);
    x.warm(0, 0);
    due("at COLD", x.limit(0), 44000);
    x.zone(0, 700);
    x.zone(300, 60000);
    due("ZONE", x.limit(0), 700);
    due("ZONE", x.limit(1), 700);
    x.warm(0, 300);
    x.warm(1, 299);
    due("of each its own", x.limit(1), 700);
    x.warm(1, 300);
    due("the latest one whose WARMTH it has", x.limit(1), 60000);
    set(x, 0, 3000);
    due("0 at least", x.limit(0), 0);
    PackWatch y = closed(1000, 500, 0);
    set(y, 25, 99, 20, 1000, 4, 99999);
    y.run(1);
    due("into, with POLAR 12: 488 * 200", y.limit(0), 97600);
    set(y, 5, 100);
    due("out of, with POLAR 12: 812 * 100", y.limit(1), 81200);
    dueOfAll("limit", NONE, x::limit, -1, 2, MAX, MIN);
  }

  static void p48() {
    PackWatch x = new PackWatch();
    due("without cells", x.worst(0), NONE);
    x.cell(1000, 500, 0);
    x.cell(1000, 600, 0);
    x.cell(1000, 600, 0);
    set(x, 4, 1);
    due("into, MOST aside", x.worst(0), 1);
    due("out of", x.worst(1), 0);
    x.warm(2, -5);
    due("COLD", x.worst(0), 2);
    due("COLD is not out of", x.worst(1), 0);
    x.warm(1, 600);
    due("both 0: the first", x.worst(0), 1);
    due("out of: HOT", x.worst(1), 1);
    dueOfAll("worst", NONE, x::worst, -1, 2, MAX, MIN);
  }

  static void p49() {
    PackWatch x = new PackWatch();
    due("spread()", x.spread(), NONE);
    x.cell(100, 500, 0);
    due("spread()", x.spread(), 0);
    x.cell(100, 100, 0);
    x.cell(100, 900, 0);
    due("spread()", x.spread(), 800);
  }

  static void p50() {
    PackWatch x = pack(100, 500, 0);
    dueOfAll("mayReset", 0, n -> num(x.mayReset(n)), -1, 0, 10, 11, 32, MAX, MIN);
    set(x, 29, 0, 21, 3);
    x.run(1);
    set(x, 29, 1);
    x.run(2);
    due("too early", x.mayReset(10), false);
    x.run(1);
    due("mayReset(10)", x.mayReset(10), true);
    due("nothing changed", x.is(5), 1024);
    due("42 is not 10", x.mayReset(42), false);
    due("reset(10)", x.reset(10), true);
    due("mayReset(10)", x.mayReset(10), false);
  }

  static void p51() {
    PackWatch x = pack(100, 500, 0);
    dueOfAll("when", NONE, x::when, -1, 0, 5, 10, 11, MAX, MIN);
    set(x, 29, 0);
    x.run(4);
    due("when(10)", x.when(10), 4);
    set(x, 29, 1);
    x.run(4);
    due("when(10)", x.when(10), 4);
    due("when(9)", x.when(9), NONE);
  }

  static void p52() {
    PackWatch x = pack(100, 500, 0);
    due("book(-1, 0)", x.book(-1, 0), 0);
    set(x, 21, 1);
    for (int i = 0; i < 13; i++) {
      set(x, 29, 0, 28, 1);
      x.run(2);
      set(x, 29, 1, 28, 0);
      x.hear();
      x.run(1);
      if (i == 0) {
        due("LOOSE first", x.book(0, 1), 10);
        due("TIME", x.book(0, 0), 1);
        due("then SILENT", x.book(1, 1), 9);
        due("TIME", x.book(1, 0), 2);
        due("two lines", x.book(-1, 5), 2);
        dueOfAll("book i", -2, n -> x.book(n, 0), -2, 2, 24, MAX, MIN);
        dueOfAll("book what", -2, n -> x.book(0, n), -1, 2, MAX, MIN);
      }
      due("reset", x.reset(10), true);
      due("reset", x.reset(9), true);
    }
    due("24 at most", x.book(-1, 0), 24);
    due("the eldest kept", x.book(0, 0), 4);
    due("both in one SECOND", x.book(23, 0), 37);
    due("by numbers", x.book(23, 1), 10);
    due("by numbers", x.book(22, 1), 9);
    PackWatch y = pack(100, 500, 0);
    set(y, 29, 0, 0, 3000);
    y.run(1);
    due("by numbers", y.book(0, 1), 0);
    due("by numbers", y.book(1, 1), 10);
  }

  static void p53() {
    PackWatch x = new PackWatch();
    x.piece(-5, 7);
    x.piece(9, 99);
    due("driveOf(0, 0)", x.driveOf(0, 0), -5);
    due("driveOf(0, 1)", x.driveOf(0, 1), 7);
    due("driveOf(1, 0)", x.driveOf(1, 0), 9);
    due("driveOf(1, 1)", x.driveOf(1, 1), 99);
    dueOfAll("driveOf i", BAD, n -> x.driveOf(n, 0), -1, 2, 24, MAX, MIN);
    dueOfAll("driveOf what", BAD, n -> x.driveOf(0, n), -1, 2, MAX, MIN);
  }

  static void p54() {
    PackWatch x = new PackWatch();
    due("room(0)", x.room(0), NONE);
    x.cell(100, 900, 0);
    x.cell(1000, 950, 0);
    x.cell(1000, 10, 0);
    due("room(0)", x.room(0), 36000);
    due("room(1)", x.room(1), 36000);
    x.charge(0, 360000);
    due("full", x.room(0), 0);
    x.charge(2, 1);
    due("room(1)", x.room(1), 1);
    dueOfAll("room", NONE, x::room, -1, 2, MAX, MIN);
  }

  static void p55() {
    PackWatch x = new PackWatch();
    due("fullness()", x.fullness(), 0);
    x.cell(100, 0, 0);
    due("empty", x.fullness(), Double.doubleToLongBits(0.0));
    x.charge(0, 360000);
    due("full", x.fullness(), Double.doubleToLongBits(1.0));
    x.charge(0, 120000);
    due("a third", x.fullness(), Double.doubleToLongBits(1.0 / 3.0));
    x.charge(0, 1);
    due("the least", x.fullness(), Double.doubleToLongBits(1.0 / 360000.0));
    for (int i = 1; i < 16; i++) x.cell(9999, 0, 0);
    due("the very least", x.fullness(), Double.doubleToLongBits(1.0 / (360000.0 + 15.0 * 35996400.0)));
    x.charge(3, 35996399);
    due("two cells", x.fullness(), Double.doubleToLongBits(35996400.0 / (360000.0 + 15.0 * 35996400.0)));
  }

  static void p56() {
    PackWatch x = new PackWatch();
    due("off()", x.off(), 0);
    x.cell(100, 500, 0);
    due("off()", x.off(), 0);
    x.charge(0, 0);
    due("500", x.off(), Float.floatToIntBits(500f));
    x.cell(100, 500, 0);
    x.cell(100, 500, 0);
    due("500 by 3", x.off(), Float.floatToIntBits(500f / 3f));
    x.charge(1, 360000);
    due("without sign", x.off(), Float.floatToIntBits(1000f / 3f));
    x.charge(0, 180000);
    x.charge(1, 180360);
    due("1 by 3", x.off(), Float.floatToIntBits(1f / 3f));
    for (int i = 3; i < 16; i++) x.cell(100, 500, 0);
    due("1 by 16", x.off(), Float.floatToIntBits(1f / 16f));
    PackWatch y = pack(100, 0, 0);
    y.charge(0, 360000);
    due("1000", y.off(), Float.floatToIntBits(1000f));
  }

  static void p57() {
    PackWatch x = closed(1000, 500, 0);
    set(x, 20, 1000);
    dueOfAll("foretold n", BAD, n -> x.foretold(n, 6), 0, 301, -1, MAX, MIN);
    dueOfAll("foretold what", BAD, n -> x.foretold(5, n), -1, 16, MAX, MIN);
    due("TIME", x.foretold(5, 6), 16);
    due("CURRENT", x.foretold(1, 4), 1000);
    due("TIME", x.foretold(300, 6), 311);
    due("TIME now", x.is(6), 11);
    due("CURRENT now", x.is(4), 0);
    due("steps() as they were", x.steps(), 5);
    set(x, 28, 13);
    due("FAULTS", x.foretold(2, 5), 0);
    due("FAULTS", x.foretold(3, 5), 512);
    due("FAULTS now", x.is(5), 0);
    x.run(3);
    due("as was foretold", x.is(5), 512);
    PackWatch y = new PackWatch();
    for (int i = 0; i < 33; i++) y.run(300);
    due("TIME 9999 at most", y.foretold(300, 6), 9999);
    due("RESTED", y.foretold(99, 8), 9999);
  }

  static void p58() {
    PackWatch x = closed(1000, 500, 0);
    set(x, 20, 1000);
    due("CHARGE", x.foretoldOf(5, 0, 1), 1805000);
    due("CHARGE", x.foretoldOf(300, 0, 1), 2100000);
    due("CHARGE now", x.of(0, 1), 1800000);
    due("TURNS now", x.of(0, 14), 1);
    due("TURNS", x.foretoldOf(300, 0, 14), 2);
    due("VOLTS", x.foretoldOf(1, 0, 11), 3700);
    dueOfAll("foretoldOf n", BAD, n -> x.foretoldOf(n, 0, 0), 0, 301, -1, MAX, MIN);
    dueOfAll("foretoldOf cell", BAD, n -> x.foretoldOf(1, n, 0), -1, 1, MAX, MIN);
    dueOfAll("foretoldOf what", BAD, n -> x.foretoldOf(1, 0, n), -1, 19, MAX, MIN);
  }

  static void p59() {
    PackWatch x = closed(1000, 500, 0);
    due("no PIECES", x.driven(6), 11);
    x.piece(1000, 3);
    x.piece(-500, 2);
    due("TIME", x.driven(6), 16);
    due("CURRENT", x.driven(4), -500);
    due("PIECES", x.driven(12), 2);
    due("TIME now", x.is(6), 11);
    due("REQUEST now", x.setting(20), 0);
    dueOfAll("driven", BAD, x::driven, -1, 16, MAX, MIN);
    PackWatch y = pack(1000, 500, 0);
    for (int i = 0; i < 33; i++) y.run(300);
    y.close();
    y.run(90);
    y.piece(100, 5);
    y.piece(200, 99);
    y.piece(300, 1);
    due("stops at 9999", y.driven(6), 9999);
    due("in the second PIECE", y.driven(4), 200);
    due("drive() is refused", y.drive(), NONE);
  }

  static void p60() {
    PackWatch x = pack(1000, 500, 0, 1000, 520, 0);
    due("no MODE", x.bare(), 1);
    set(x, 11, 1, 12, 9999);
    due("four SHUNTS, then none", x.bare(), 5);
    due("nothing changed", x.is(9), 0);
    set(x, 12, 1);
    due("in none of 2000", x.bare(), NONE);
    set(x, 14, 20);
    due("BAND", x.bare(), 1);
    set(x, 14, 10, 12, 17);
    due("32400 less 17 k: in the 1907th", x.bare(), 1907);
    set(x, 12, 0);
    due("a SHUNT of nothing is one", x.bare(), NONE);
    set(x, 11, 2);
    due("a SHUTTLE: not at even TIMES", x.bare(), 2);
    set(x, 15, 0);
    due("one that moves nothing isn't one", x.bare(), 1);
    set(x, 11, 1, 12, 9999, 29, 0);
    due("none with a FAULT", x.bare(), 2);
    set(x, 29, 1, 12, 1);
    x.charge(1, 1839600 + 1998);
    due("in the 2000th", x.bare(), 2000);
    x.charge(1, 1839600 + 1999);
    due("not in 2000", x.bare(), NONE);
  }

  static void p61() {
    PackWatch x = pack(1000, 500, 0, 1000, 520, 0);
    due("none", x.harm(300), NONE);
    set(x, 28, 5);
    due("not by 5", x.harm(5), NONE);
    due("SILENT by 6", x.harm(6), 9);
    set(x, 9, 0);
    due("LEAK is earlier", x.harm(6), 6);
    set(x, 28, 2);
    due("of one SECOND the least", x.harm(6), 6);
    set(x, 0, 3700);
    due("HIGH", x.harm(1), 0);
    due("nothing changed", x.is(5), 0);
    x.run(1);
    due("latched is none", x.harm(1), NONE);
    dueOfAll("harm", NONE, x::harm, 0, 301, -1, MAX, MIN);
    PackWatch y = new PackWatch();
    for (int i = 0; i < 33; i++) y.run(300);
    set(y, 29, 0);
    due("to 9999", y.harm(99), 10);
    due("beyond", y.harm(100), NONE);
  }

  static void p62() {
    PackWatch x = pack(1000, 500, 0);
    due("OPEN", x.power(0, 1), NONE);
    x.close();
    due("PRECHARGE", x.power(0, 1), NONE);
    x.run(11);
    set(x, 0, 3710);
    due("(3710 - 3700) * 200", x.power(0, 1), 2000);
    due("four SECONDS", x.power(0, 4), 2000);
    due("the fifth one", x.power(0, 5), 1800);
    set(x, 1, 3690);
    due("out of", x.power(1, 1), -2000);
    due("out of: two", x.power(1, 2), -1800);
    set(x, 4, 1999);
    due("MOST", x.power(0, 1), 1900);
    set(x, 4, 99);
    due("below 100", x.power(0, 1), 0);
    set(x, 4, 5000);
    set(x, 23, 3000);
    x.rule(0, true, 0, 20, 77);
    due("RULES, TAPER aside", x.power(0, 4), 2000);
    due("TAPER as it was", x.setting(23), 3000);
    set(x, 28, 13);
    due("SILENT in the third", x.power(0, 2), 2000);
    due("SILENT in the third", x.power(0, 3), 0);
    dueOfAll("power way", NONE, n -> x.power(n, 1), -1, 2, MAX, MIN);
    dueOfAll("power n", NONE, n -> x.power(0, n), 0, 61, -1, MAX, MIN);
    PackWatch y = closed(1000, 500, 10);
    set(y, 0, 3720);
    due("HIGH by OHMS: 20 mV at 2000", y.power(0, 1), 2000);
    PackWatch z = pack(9999, 500, 0);
    for (int i = 0; i < 33; i++) z.run(300);
    z.close();
    z.run(50);
    due("to 9999", z.power(0, 49), 50000);
    due("beyond", z.power(0, 50), NONE);
    PackWatch w = closed(1000, 500, 0);
    due("most of MOST", w.power(0, 1), 50000);
    due("most of MOST", w.power(1, 1), -50000);
    due("nothing changed", w.is(4), 0);
    w.stuck(2, 2);
    due("PLUS DEAD", w.power(0, 1), 0);
  }

  static void p63() {
    PackWatch x = new PackWatch();
    due("without cells", x.bestBand(1, 1000), NONE);
    x.cell(1000, 500, 0);
    x.cell(1000, 520, 0);
    due("no MODE", x.bestBand(1, 19), NONE);
    due("no MODE", x.bestBand(1, 20), 99);
    set(x, 11, 1, 12, 9999, 2, 900);
    due("in one SECOND 517", x.bestBand(1, 17), 19);
    due("in one SECOND not 516", x.bestBand(1, 16), NONE);
    due("520, 517, 514, then 511: above BAND 13", x.bestBand(4, 11), 13);
    due("503, then 500: above BAND 2", x.bestBand(60, 0), 2);
    due("BAND as it was", x.setting(14), 10);
    dueOfAll("bestBand n", NONE, n -> x.bestBand(n, 20), 0, 61, -1, MAX, MIN);
    dueOfAll("bestBand spread", NONE, n -> x.bestBand(1, n), -1, 1001, MAX, MIN);
    due("bestBand(60, 1000)", x.bestBand(60, 1000), 99);
    x.charge(1, 1803600);
    set(x, 12, 100);
    due("PART 501: only by BAND 0", x.bestBand(1, 0), 0);
  }

  static void p64() {
    PackWatch x = closed(1000, 500, 0);
    set(x, 1, 3690);
    due("yields(2001)", x.yields(2001), 1);
    due("yields(2000)", x.yields(2000), 2);
    due("yields(1800)", x.yields(1800), 6);
    due("REQUEST as it was", x.setting(20), 0);
    x.rule(0, true, 0, 20, 0);
    due("RULES aside", x.yields(1800), 6);
    dueOfAll("yields", NONE, x::yields, 0, 100000, -1, MAX, MIN);
    set(x, 1, 2900);
    due("in none of 2000", x.yields(1), NONE);
    PackWatch y = pack(1000, 500, 0);
    due("OPEN", y.yields(1), 1);
    for (int i = 0; i < 33; i++) y.run(300);
    y.close();
    y.run(90);
    set(y, 29, 0);
    due("OPEN behind a FAULT", y.yields(1), 2);
    set(y, 29, 1);
    due("up to 9999", y.yields(1), NONE);
    y.run(9);
    due("TIME is over", y.yields(99999), NONE);
    PackWatch z = closed(100, 500, 0);
    set(z, 1, 3000);
    z.charge(0, 2358);
    due("in the 2000th", z.yields(1), 2000);
    z.charge(0, 2359);
    due("not in 2000", z.yields(1), NONE);
  }

  static void p65() {
    PackWatch x = closed(100, 500, 0, 100, 400, 0);
    set(x, 0, 4500, 1, 2000, 20, 3600);
    due("into", x.eta(0), 50);
    due("out of: in none", x.eta(1), NONE);
    set(x, 20, -3600);
    due("out of", x.eta(1), 40);
    due("into: in none", x.eta(0), NONE);
    set(x, 20, -72);
    due("in the 2000th", x.eta(1), 2000);
    set(x, 20, -71);
    due("in none of 2000", x.eta(1), NONE);
    due("nothing changed", x.is(6), 11);
    x.charge(0, 360000);
    due("now", x.eta(0), 0);
    x.charge(1, 0);
    due("now", x.eta(1), 0);
    dueOfAll("eta", NONE, x::eta, -1, 2, MAX, MIN);
    PackWatch y = new PackWatch();
    due("without cells", y.eta(0), NONE);
    PackWatch z = pack(100, 500, 0);
    set(z, 27, 90);
    due("by SELF", z.eta(1), 2000);
  }

  static void p66() {
    PackWatch x = new PackWatch();
    due("without cells", x.bestMode(1), NONE);
    x.cell(1000, 500, 0);
    x.cell(1000, 500, 0);
    due("the lowest", x.bestMode(300), 0);
    x.charge(1, 2160000);
    set(x, 12, 3600);
    due("99 by a SHUNT", x.bestMode(1), 1);
    set(x, 12, 100, 15, 9999);
    due("97 or less by a SHUTTLE at an odd TIME", x.bestMode(1), 2);
    x.run(1);
    due("at an even TIME: 99 by a SHUNT of 100", x.bestMode(1), 1);
    due("MODE as it was", x.setting(11), 0);
    dueOfAll("bestMode", NONE, x::bestMode, 0, 301, -1, MAX, MIN);
  }

  static void p67() {
    PackWatch x = pack(100, 500, 0);
    x.run(7);
    int before = x.steps();
    due("image()", x.image(), 7);
    due("no STEP", x.steps(), before);
    x.run(3);
    due("image() anew", x.image(), 10);
    x.run(3);
    due("back()", x.back(), 10);
  }

  static void p68() {
    PackWatch x = pack(1000, 500, 0);
    x.mark(0);
    x.run(2);
    x.image();
    int steps = x.steps();
    x.cell(100, 5, 5);
    set(x, 0, 3000);
    x.run(5);
    x.zone(5, 5);
    x.piece(5, 5);
    x.rule(0, true, 0, 0, 3000);
    x.price(3, 3);
    x.stuck(1, 2);
    due("back()", x.back(), 2);
    due("CELLS", x.is(0), 1);
    due("HIGH", x.setting(0), 4200);
    due("FAULTS", x.is(5), 0);
    due("when(0)", x.when(0), NONE);
    due("TRACE", x.trace(-1, 0), 2);
    due("BOOK", x.book(-1, 0), 0);
    due("ZONES", x.is(15), 0);
    due("PIECES", x.is(12), 0);
    due("RULES", x.ruleOf(-1, 0), 0);
    due("PRICES", x.cheapest(24, 1, 0), 0);
    due("stuckAs(1)", x.stuckAs(1), 0);
    due("MARK", x.since(0, 0, 3), 2);
    due("STEPS of then", x.steps(), steps);
    x.undo();
    due("a STEP of then is taken back", x.is(6), 0);
    x.undo();
    due("MARK", x.since(0, 0, 3), BAD);
    due("back() again: it stays", x.back(), 2);
    due("STEPS of then", x.steps(), steps);
    due("TIME", x.is(6), 2);
    for (int i = 0; i < 30; i++) x.set(14, i);
    due("steps()", x.steps(), 20);
    x.image();
    for (int i = 0; i < 7; i++) x.set(14, 100 + i);
    x.back();
    for (int i = 28; i >= 9; i--) {
      x.undo();
      due("each STEP as it was", x.setting(14), i);
    }
    due("undo()", x.undo(), NONE);
  }

  static void p69() {
    PackWatch x = new PackWatch();
    due("steps()", x.steps(), 0);
    x.set(14, 1);
    x.set(14, 1);
    due("steps()", x.steps(), 2);
    x.set(14, -1);
    x.run(0);
    x.close();
    x.is(0);
    x.foretold(5, 0);
    x.image();
    due("steps()", x.steps(), 2);
    x.undo();
    due("steps()", x.steps(), 1);
    for (int i = 0; i < 40; i++) x.hear();
    due("20 at most", x.steps(), 20);
    PackWatch y = new PackWatch();
    y.wipe();
    y.unrule();
    due("wiped", y.steps(), 2);
  }

  interface Part { void go(); }

  public static void main(String[] args) {
    due("the constant", PackWatch.NONE, -1);
    Part[] parts = {PromiseTest::p1, PromiseTest::p2, PromiseTest::p3, PromiseTest::p4, PromiseTest::p5, PromiseTest::p6,
      PromiseTest::p7, PromiseTest::p8, PromiseTest::p9, PromiseTest::p10, PromiseTest::p11, PromiseTest::p12,
      PromiseTest::p13, PromiseTest::p14, PromiseTest::p15, PromiseTest::p16, PromiseTest::p17, PromiseTest::p18,
      PromiseTest::p19, PromiseTest::p20, PromiseTest::p21, PromiseTest::p22, PromiseTest::p23, PromiseTest::p24,
      PromiseTest::p25, PromiseTest::p26, PromiseTest::p27, PromiseTest::p28, PromiseTest::p29, PromiseTest::p30,
      PromiseTest::p31, PromiseTest::p32, PromiseTest::p33, PromiseTest::p34, PromiseTest::p35, PromiseTest::p36,
      PromiseTest::p37, PromiseTest::p38, PromiseTest::p39, PromiseTest::p40, PromiseTest::p41, PromiseTest::p42,
      PromiseTest::p43, PromiseTest::p44, PromiseTest::p45, PromiseTest::p46, PromiseTest::p47, PromiseTest::p48,
      PromiseTest::p49, PromiseTest::p50, PromiseTest::p51, PromiseTest::p52, PromiseTest::p53, PromiseTest::p54,
      PromiseTest::p55, PromiseTest::p56, PromiseTest::p57, PromiseTest::p58, PromiseTest::p59, PromiseTest::p60,
      PromiseTest::p61, PromiseTest::p62, PromiseTest::p63, PromiseTest::p64, PromiseTest::p65, PromiseTest::p66,
      PromiseTest::p67, PromiseTest::p68, PromiseTest::p69};
    for (int i = 0; i < parts.length; i++) {
      promise = i + 1;
      parts[i].go();
    }
    System.out.println(wrong == 0 ? "all " + parts.length + " promises hold" : wrong + " answers are not as due");
    if (wrong != 0) System.exit(1);
  }
}
