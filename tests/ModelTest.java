import java.lang.reflect.InvocationTargetException;
import java.lang.reflect.Method;
import java.util.ArrayDeque;
import java.util.ArrayList;
import java.util.Arrays;
import java.util.HashMap;
import java.util.List;
import java.util.Map;
import java.util.Random;

/**
 * Runs of random calls (the seeds are fixed), answered by PackWatch and by a second, plain reading
 * of the document that keeps nothing beside what the document names. Prints where they differ.
 */
public final class ModelTest {
  static final int NONE = -1, BAD = -1000000000;

  // ------------------------------------------------------------------ the second reading

  static final int[][] BOUNDS = {
    {3000, 4500, 4200}, {2000, 3700, 2900}, {200, 900, 600}, {-400, 200, 0}, {1, 99999, 50000},
    {1, 999, 200}, {-400, 600, 250}, {0, 9999, 0}, {0, 9999, 20}, {0, 99999, 9999}, {0, 9999, 500},
    {0, 2, 0}, {0, 9999, 100}, {0, 16, 4}, {0, 999, 10}, {0, 99999, 500}, {0, 100, 90}, {1, 2000, 900},
    {-999, 999, 0}, {1, 99, 10}, {-99999, 99999, 0}, {1, 99, 10}, {0, 64, 0}, {0, 4500, 0}, {0, 9999, 0},
    {0, 99, 0}, {0, 200, 0}, {0, 999, 0}, {0, 999, 0}, {0, 1, 1}};
  static final int[] CURVE = {3000, 3450, 3550, 3600, 3650, 3700, 3760, 3840, 3930, 4040, 4200};

  static long rest(long part) {
    if (part == 1000) return 4200;
    int i = (int) (part / 100);
    return CURVE[i] + Math.floorDiv((CURVE[i + 1] - CURVE[i]) * (part - 100L * i), 100L);
  }
  static long partBy(long volts) {
    for (int p = 0; p <= 1000; p++) if (rest(p) >= volts) return p;
    return 1000;
  }

  static final class MCell implements Cloneable {
    long capacity, told, charge, ohms, warmth, polar, reckoned, through, passed, held;
    Long top, bottom, measured, guess, restedAt, voltsAhead;
    List<Long> turns = new ArrayList<>();
    long[] cycles = new long[11];
    long full() { return capacity * 3600; }
    long part() { return charge * 1000 / full(); }
    long reckonedPart() { return reckoned * 1000 / full(); }
    long volts(long current) { return rest(part()) + polar + Math.floorDiv(current * ohms, 1000L); }
    MCell copy() {
      try {
        MCell c = (MCell) clone();
        c.turns = new ArrayList<>(turns);
        c.cycles = cycles.clone();
        return c;
      } catch (CloneNotSupportedException e) { throw new IllegalStateException(e); }
    }
  }

  static final class MState implements Cloneable {
    List<MCell> cells = new ArrayList<>();
    long[] s = new long[30];
    int state, latched;
    long bus, current, time, board = 250, rested, shunts;
    int shunted, moved, lost;
    Long currentAhead;
    int[] stuck = new int[3];
    List<long[]> zones = new ArrayList<>(), pieces = new ArrayList<>(), rules = new ArrayList<>();
    List<long[]> book = new ArrayList<>(), trace = new ArrayList<>();
    long[] prices = new long[24];
    Map<Integer, long[]> marks = new HashMap<>();
    long[] when = new long[11], culprit = new long[4];
    List<Boolean> leaks = new ArrayList<>(), welds = new ArrayList<>();
    long heardAgo;
    boolean worked;
    MState() {
      for (int i = 0; i < 30; i++) s[i] = BOUNDS[i][2];
      Arrays.fill(when, NONE);
      Arrays.fill(culprit, NONE);
    }
    MState copy() {
      try {
        MState c = (MState) clone();
        c.cells = new ArrayList<>();
        for (MCell x : cells) c.cells.add(x.copy());
        c.s = s.clone(); c.stuck = stuck.clone(); c.prices = prices.clone();
        c.when = when.clone(); c.culprit = culprit.clone();
        c.zones = new ArrayList<>(zones); c.pieces = new ArrayList<>(pieces); c.rules = new ArrayList<>(rules);
        c.book = new ArrayList<>(book); c.trace = new ArrayList<>(trace);
        c.marks = new HashMap<>(marks);
        c.leaks = new ArrayList<>(leaks); c.welds = new ArrayList<>(welds);
        return c;
      } catch (CloneNotSupportedException e) { throw new IllegalStateException(e); }
    }
    long pack(long current) { long sum = 0; for (MCell c : cells) sum += c.volts(current); return sum; }
    long least() { long m = 1001; for (MCell c : cells) m = Math.min(m, c.part()); return m; }
    long spread() {
      if (cells.isEmpty()) return NONE;
      long m = -1; for (MCell c : cells) m = Math.max(m, c.part());
      return m - least();
    }
    int ordered() { return state == 0 ? 0 : state == 1 ? 3 : 5; }
    int actual() {
      int bits = 0;
      for (int i = 0; i < 3; i++) {
        boolean on = stuck[i] == 1 || stuck[i] == 0 && (ordered() >> i & 1) == 1;
        if (on) bits += 1 << i;
      }
      return bits;
    }
    boolean joined() { return (actual() & 1) != 0 && (actual() & 4) != 0; }
    boolean pre() { return (actual() & 1) != 0 && (actual() & 2) != 0; }
    long own(int way, MCell c) {
      long v = c.volts(0);
      long l = (way == 0 ? s[0] - v : v - s[1]) * s[5];
      l = Math.min(l, (s[2] - c.warmth) * 500);
      if (way == 0 && c.warmth < s[3]) l = Math.min(l, 0);
      for (int z = zones.size() - 1; z >= 0; z--)
        if (c.warmth >= zones.get(z)[0]) { l = Math.min(l, zones.get(z)[1]); break; }
      return Math.max(l, 0);
    }
    int worst(int way) {
      int w = NONE;
      for (int i = 0; i < cells.size(); i++) if (w < 0 || own(way, cells.get(i)) < own(way, cells.get(w))) w = i;
      return w;
    }
    long limit(int way) {
      long l = s[4];
      for (MCell c : cells) l = Math.min(l, own(way, c));
      return l;
    }

    int second() {
      if (time < 9999) time++;
      boolean slow = false;
      // 1
      long busAhead = bus;
      if (joined()) bus = pack(0);
      else if (pre()) {
        long more = pack(0) > bus ? pack(0) - bus : 0;
        bus = bus + -Math.floorDiv(-more, 4L) - s[7];
        if (bus < 0) bus = 0;
      } else bus = Math.floorDiv(bus, 2L);
      if (state == 1) {
        if (bus * 1000 >= 950 * pack(0)) state = 2;
        else if (!(bus - busAhead >= s[8])) slow = true;
      }
      // 2
      if (!joined()) current = 0;
      else {
        long request = s[20];
        current = request >= 0 ? Math.min(request, limit(0)) : -Math.min(-request, limit(1));
        if (current != request && !cells.isEmpty()) {
          int way = request > 0 ? 0 : 1;
          MCell w = cells.get(worst(way));
          if (own(way, w) <= s[4]) w.held++;
        }
      }
      // 3
      for (MCell c : cells) {
        c.charge = Math.max(0, Math.min(c.full(), c.charge + current - s[27]));
        c.warmth += (current / 1000) * (current / 1000) * c.ohms / 500;
        c.warmth += (s[6] - c.warmth) / 32;
        c.polar += (current * s[25] / 1000 - c.polar) / 8;
        c.through += Math.abs(current);
        while (s[24] != 0 && c.through >= s[24] * 3600) {
          c.through -= s[24] * 3600;
          c.capacity = Math.max(100, c.capacity - 1);
          c.charge = Math.min(c.charge, c.full());
          c.reckoned = Math.min(c.reckoned, c.full());
        }
        c.reckoned = Math.max(0, Math.min(c.full(), c.reckoned + current + s[18]));
      }
      for (int i = 0; i + 1 < cells.size(); i++) {
        MCell a = cells.get(i), b = cells.get(i + 1);
        long goes = (b.warmth - a.warmth) * s[22] / 256;
        a.warmth += goes;
        b.warmth -= goes;
      }
      // 4
      shunts = 0;
      worked = false;
      if (latched == 0 && s[11] == 1) shunt();
      if (latched == 0 && s[11] == 2) shuttle();
      // 5
      board += (s[6] - board) / 16;
      // 6
      for (MCell c : cells) {
        long v = c.volts(current);
        if (c.voltsAhead != null && Math.abs(current - currentAhead) >= 1000)
          c.measured = (v - c.voltsAhead) * 1000 / (current - currentAhead);
        c.voltsAhead = v;
        c.passed += current;
      }
      currentAhead = current;
      rested = current == 0 ? rested + 1 : 0;
      if (rested == s[19]) {
        for (MCell c : cells) {
          long p = partBy(c.volts(current));
          c.reckoned = p * c.capacity * 36 / 10;
          if (c.restedAt != null && Math.abs(p - c.restedAt) >= 100)
            c.guess = Math.abs(c.passed) * 1000 / (Math.abs(p - c.restedAt) * 3600);
          c.restedAt = p;
          c.passed = 0;
        }
      }
      if (joined()) bus = pack(current);
      if (state == 2 && s[23] > 0 && s[20] > 0) {
        boolean high = false;
        for (MCell c : cells) if (c.volts(current) >= s[23]) high = true;
        if (high) { s[20] = s[20] * 9 / 10; if (s[20] < 100) s[20] = 0; }
      }
      // 7
      boolean[] so = new boolean[11];
      for (int i = cells.size() - 1; i >= 0; i--) {
        MCell c = cells.get(i);
        long v = c.volts(current);
        if (v > s[0]) { so[0] = true; culprit[0] = i; }
        if (v < s[1]) { so[1] = true; culprit[1] = i; }
        if (c.warmth > s[2]) { so[2] = true; culprit[2] = i; }
        if (current > 0 && c.warmth < s[3]) { so[3] = true; culprit[3] = i; }
      }
      if (!so[2] && board > s[2]) { so[2] = true; culprit[2] = NONE; }
      so[4] = state == 2 && (s[20] > s[4] || s[20] < -s[4]);
      so[5] = slow;
      leaks.add(s[9] < s[10]);
      int t = leaks.size();
      so[6] = t >= 3 && leaks.get(t - 1) && leaks.get(t - 2) && leaks.get(t - 3);
      so[7] = !cells.isEmpty() && spread() > s[17];
      welds.add(actual() != ordered());
      t = welds.size();
      so[8] = t >= 2 && welds.get(t - 1) && welds.get(t - 2);
      heardAgo++;
      so[9] = s[28] != 0 && heardAgo > s[28];
      so[10] = s[29] == 0;
      int more = 0;
      for (int f = 0; f < 11; f++) {
        if (!so[f]) continue;
        when[f] = time;
        if ((latched >> f & 1) == 0) {
          latched |= 1 << f;
          more++;
          book.add(new long[] {time, f});
          if (book.size() > 24) book.remove(0);
        }
      }
      if (latched != 0) state = 0;
      trace.add(new long[] {current, pack(current), spread()});
      if (trace.size() > 32) trace.remove(0);
      for (MCell c : cells) {
        long v = c.volts(current);
        c.top = c.top == null ? v : Math.max(c.top, v);
        c.bottom = c.bottom == null ? v : Math.min(c.bottom, v);
        follow(c);
      }
      // 8
      for (long[] r : rules) {
        long is = is((int) r[0]);
        if (r[1] == 1 && is > r[2] || r[1] == 0 && is < r[2]) s[(int) r[3]] = r[4];
      }
      return more;
    }

    void shunt() {
      if (board >= s[2]) return;
      List<MCell> chosen = new ArrayList<>();
      for (MCell c : cells) if (c.part() > least() + s[14]) chosen.add(c);
      chosen.sort((a, b) -> Long.compare(b.part(), a.part())); // stable: like ones by numbers
      while (chosen.size() > s[13]) chosen.remove(chosen.size() - 1);
      for (MCell c : chosen) {
        worked = true;
        shunts |= 1L << cells.indexOf(c);
        long before = c.charge;
        c.charge = Math.max(0, c.charge - s[12]);
        c.reckoned = Math.max(0, c.reckoned - s[12]);
        shunted += (int) (before - c.charge);
        board += 3;
      }
    }

    void shuttle() {
      for (int i = time % 2 != 0 ? 0 : 1; i + 1 < cells.size(); i += 2) {
        MCell a = cells.get(i), b = cells.get(i + 1);
        if (a.part() < b.part()) { MCell x = a; a = b; b = x; }
        if (a.part() - b.part() <= s[14]) continue;
        long left = Math.min(s[15], a.charge);
        long came = Math.min(left * s[16] / 100, b.full() - b.charge);
        a.charge -= left;
        b.charge += came;
        a.reckoned = Math.max(0, a.reckoned - left);
        b.reckoned = Math.min(b.full(), b.reckoned + came);
        moved += (int) left;
        lost += (int) (left - came);
        if (left != 0) worked = true;
      }
    }

    static void follow(MCell c) {
      long p = c.part();
      List<Long> t = c.turns;
      long latest = t.get(t.size() - 1);
      if (p == latest) return;
      boolean on = t.size() > 1 && Long.signum(p - latest) == Long.signum(latest - t.get(t.size() - 2));
      if (on) t.set(t.size() - 1, p);
      else {
        if (t.size() == 32) t.remove(0);
        t.add(p);
      }
      while (t.size() >= 4) {
        int n = t.size();
        long a = t.get(n - 4), b = t.get(n - 3), d = t.get(n - 2), e = t.get(n - 1);
        long mid = Math.abs(b - d);
        if (mid > Math.abs(a - b) || mid > Math.abs(d - e)) break;
        c.cycles[(int) (mid / 100)]++;
        t.remove(n - 2);
        t.remove(n - 3);
      }
    }

    long is(int what) {
      switch (what) {
        case 0: return cells.size();
        case 1: return state;
        case 2: return bus;
        case 3: return pack(current);
        case 4: return current;
        case 5: return latched;
        case 6: return time;
        case 7: return board;
        case 8: return rested;
        case 9: return shunted;
        case 10: return moved;
        case 11: return lost;
        case 12: return pieces.size();
        case 13: return shunts;
        case 14: return actual();
        case 15: return zones.size();
        default: return BAD;
      }
    }
    long of(int cell, int what) {
      if (cell < 0 || cell >= cells.size()) return BAD;
      MCell c = cells.get(cell);
      switch (what) {
        case 0: return c.capacity;
        case 1: return c.charge;
        case 2: return c.ohms;
        case 3: return c.warmth;
        case 4: return c.part();
        case 5: return rest(c.part());
        case 6: return c.volts(current);
        case 7: return c.reckonedPart();
        case 8: return c.reckoned;
        case 9: return c.through;
        case 10: return c.capacity * 1000 / c.told;
        case 11: return c.top == null ? NONE : c.top;
        case 12: return c.bottom == null ? NONE : c.bottom;
        case 13: return c.polar;
        case 14: return c.turns.size();
        case 15: return c.measured == null ? -1000000 : c.measured;
        case 16: return c.guess == null ? NONE : c.guess;
        case 17: return c.passed;
        case 18: return c.held;
        default: return BAD;
      }
    }
    int driveOn() {
      int more = 0;
      for (long[] p : pieces) {
        s[20] = p[0];
        for (int i = 0; i < p[1] && time < 9999; i++) more += second();
      }
      return more;
    }
    long[] parts() {
      long[] p = new long[cells.size()];
      for (int i = 0; i < p.length; i++) p[i] = cells.get(i).part();
      return p;
    }
  }

  static boolean in(long x, long a, long b) { return x >= a && x <= b; }

  static final class Model {
    MState p = new MState(), image = new MState();
    ArrayDeque<MState> steps = new ArrayDeque<>(), imageSteps = new ArrayDeque<>();
    void step() {
      steps.addLast(p.copy());
      if (steps.size() > 20) steps.removeFirst();
    }
    static ArrayDeque<MState> copyOf(ArrayDeque<MState> from) {
      ArrayDeque<MState> to = new ArrayDeque<>();
      for (MState m : from) to.addLast(m.copy());
      return to;
    }
    boolean isCell(int c) { return in(c, 0, p.cells.size() - 1); }
    long bool(boolean fits, Runnable act) {
      if (!fits) return 0;
      step();
      act.run();
      return 1;
    }
    boolean canReset(int f) {
      return in(f, 0, 10) && (p.latched >> f & 1) == 1 && p.state == 0 && p.time >= p.when[f] + p.s[21];
    }

    long call(String name, int[] a) {
      MState p = this.p;
      int x = a.length > 0 ? a[0] : 0, y = a.length > 1 ? a[1] : 0, z = a.length > 2 ? a[2] : 0;
      switch (name) {
        case "cell":
          if (!in(x, 100, 9999) || !in(y, 0, 1000) || !in(z, 0, 99) || p.cells.size() == 16) return NONE;
          step();
          MCell c = new MCell();
          c.capacity = c.told = x;
          c.charge = c.reckoned = (long) y * x * 36 / 10;
          c.ohms = z;
          c.warmth = p.s[6];
          c.turns.add(c.part());
          p.cells.add(c);
          return p.cells.size() - 1;
        case "charge": return bool(isCell(x) && in(y, 0, p.cells.get(x).full()), () -> p.cells.get(a[0]).charge = a[1]);
        case "warm": return bool(isCell(x) && in(y, -400, 1200), () -> p.cells.get(a[0]).warmth = a[1]);
        case "set": return bool(in(x, 0, 29) && in(y, BOUNDS[x][0], BOUNDS[x][1]), () -> p.s[a[0]] = a[1]);
        case "run": {
          if (!in(x, 1, 300) || p.time + x > 9999) return NONE;
          step();
          int more = 0;
          for (int i = 0; i < x; i++) more += p.second();
          return more;
        }
        case "close": return bool(p.state == 0 && p.latched == 0 && !p.cells.isEmpty(), () -> p.state = 1);
        case "open": return bool(p.state != 0, () -> { p.state = 0; p.current = 0; });
        case "reset": return bool(canReset(x), () -> p.latched -= 1 << a[0]);
        case "mayReset": return canReset(x) ? 1 : 0;
        case "stuck": return bool(in(x, 0, 2) && in(y, 0, 2), () -> p.stuck[a[0]] = a[1]);
        case "zone":
          if (!in(x, -400, 1200) || !in(y, 0, 99999) || p.zones.size() == 6) return NONE;
          if (!p.zones.isEmpty() && p.zones.get(p.zones.size() - 1)[0] >= x) return NONE;
          step();
          p.zones.add(new long[] {x, y});
          return p.zones.size();
        case "hear": {
          step();
          long ago = p.heardAgo;
          p.heardAgo = 0;
          return ago;
        }
        case "price": return bool(in(x, 0, 23) && in(y, 0, 999), () -> p.prices[a[0]] = a[1]);
        case "mark": return bool(in(x, 0, 2), () -> {
          long[] m = new long[1 + 2 * p.cells.size()];
          m[0] = p.time;
          for (int i = 0; i < p.cells.size(); i++) {
            m[1 + 2 * i] = p.cells.get(i).part();
            m[2 + 2 * i] = p.cells.get(i).through;
          }
          p.marks.put(a[0], m);
        });
        case "piece":
          if (!in(x, -99999, 99999) || !in(y, 1, 99) || p.pieces.size() == 24) return NONE;
          step();
          p.pieces.add(new long[] {x, y});
          return p.pieces.size();
        case "rule":
          if (!in(x, 0, 13) || !in(a[3], 0, 29) || !in(a[4], BOUNDS[a[3]][0], BOUNDS[a[3]][1])) return NONE;
          if (p.rules.size() == 8) return NONE;
          step();
          p.rules.add(new long[] {x, y, z, a[3], a[4]});
          return p.rules.size();
        case "unrule": { step(); int n = p.rules.size(); p.rules = new ArrayList<>(); return n; }
        case "wipe": { step(); int n = p.pieces.size(); p.pieces = new ArrayList<>(); return n; }
        case "drive": {
          long all = 0;
          for (long[] q : p.pieces) all += q[1];
          if (p.pieces.isEmpty() || p.time + all > 9999) return NONE;
          step();
          return p.driveOn();
        }
        case "undo":
          if (steps.isEmpty()) return NONE;
          this.p = steps.removeLast();
          return steps.size();
        case "steps": return steps.size();
        case "image": image = p.copy(); imageSteps = copyOf(steps); return p.time;
        case "back": this.p = image.copy(); steps = copyOf(imageSteps); return this.p.time;
        case "is": return p.is(x);
        case "setting": return in(x, 0, 29) ? p.s[x] : BAD;
        case "of": return p.of(x, y);
        default: return tell(name, a, x, y, z);
      }
    }

    long line(List<long[]> lines, int i, int what, int width, long none, boolean counts) {
      if (counts && i == NONE) return lines.size();
      return in(i, 0, lines.size() - 1) && in(what, 0, width - 1) ? lines.get(i)[what] : none;
    }

    long tell(String name, int[] a, int x, int y, int z) {
      int n = p.cells.size();
      long[] parts = p.parts();
      switch (name) {
        case "ruleOf": return line(p.rules, x, y, 5, BAD, true);
        case "zoneOf": return line(p.zones, x, y, 2, BAD, false);
        case "trace": return line(p.trace, x, y, 3, BAD, true);
        case "book": return line(p.book, x, y, 2, -2, true);
        case "driveOf": return line(p.pieces, x, y, 2, BAD, false);
        case "module": {
          if (!in(x, 0, 3) || !in(y, 0, 3) || n <= 4 * x) return BAD;
          List<MCell> m = p.cells.subList(4 * x, Math.min(n, 4 * x + 4));
          long volts = 0, warm = Long.MIN_VALUE, top = -1, bottom = 2000;
          for (MCell c : m) {
            volts += c.volts(p.current);
            warm = Math.max(warm, c.warmth);
            top = Math.max(top, c.part());
            bottom = Math.min(bottom, c.part());
          }
          return new long[] {volts, warm, top - bottom, m.size()}[y];
        }
        case "cycles": return isCell(x) && in(y, 0, 10) ? p.cells.get(x).cycles[y] : NONE;
        case "turn": return isCell(x) && in(y, 0, p.cells.get(x).turns.size() - 1) ? p.cells.get(x).turns.get(y) : NONE;
        case "stuckAs": return in(x, 0, 2) ? p.stuck[x] : NONE;
        case "warnings": {
          int w = 0;
          for (MCell c : p.cells) {
            if (c.volts(p.current) > p.s[0] - p.s[26]) w |= 1;
            if (c.volts(p.current) < p.s[1] + p.s[26]) w |= 2;
            if (c.warmth > p.s[2] - p.s[26]) w |= 4;
            if (c.warmth < p.s[3] + p.s[26]) w |= 8;
            if (p.spread() > p.s[17] - p.s[26]) w |= 128;
          }
          return w;
        }
        case "need": {
          if (!isCell(x) || p.s[12] == 0) return NONE;
          long charge = p.cells.get(x).charge, goal = p.least() * p.cells.get(x).capacity * 36 / 10;
          int k = 0;
          while (charge > goal) { charge -= p.s[12]; k++; }
          return k;
        }
        case "culprit": return in(x, 0, 3) ? p.culprit[x] : NONE;
        case "since": {
          long[] m = p.marks.get(x);
          if (m == null || y < 0 || 2 * (long) y + 1 >= m.length) return BAD;
          switch (z) {
            case 0: return m[1 + 2 * y];
            case 1: return parts[y] - m[1 + 2 * y];
            case 2: return p.cells.get(y).through - m[2 + 2 * y];
            case 3: return p.time - m[0];
            default: return BAD;
          }
        }
        case "rank": {
          List<Integer> order = new ArrayList<>();
          for (int i = 0; i < n; i++) order.add(i);
          order.sort((i, j) -> Long.compare(parts[j], parts[i]));
          return in(x, 0, n - 1) ? order.get(x) : NONE;
        }
        case "middle": return n == 0 ? NONE : middle(parts);
        case "scatter": {
          long sum = 0;
          for (long q : parts) sum += Math.abs(q - middle(parts));
          return n == 0 ? NONE : sum;
        }
        case "goal": return n == 0 ? NONE : goal();
        case "flow": {
          if (!in(x, 0, n - 2)) return BAD;
          long sum = 0;
          for (int i = 0; i <= x; i++) sum += p.cells.get(i).charge - goal() * p.cells.get(i).capacity * 36 / 10;
          return sum;
        }
        case "halves": {
          if (n == 0 || n > 8 || n % 2 == 1 || !in(x, 0, 1)) return NONE;
          long best = Long.MAX_VALUE, bits = 0;
          for (int b = 0; b < 1 << n; b++) {
            if ((b & 1) == 0 || Integer.bitCount(b) * 2 != n) continue;
            long d = 0;
            for (int i = 0; i < n; i++) d += (b >> i & 1) == 1 ? p.cells.get(i).charge : -p.cells.get(i).charge;
            if (Math.abs(d) < best) { best = Math.abs(d); bits = b; }
          }
          return x == 0 ? bits : best;
        }
        case "cheapest": return cheapest(x, y, z);
        case "hours": {
          if (!in(x, 0, 1000) || !in(y, 1, 99999)) return NONE;
          long most = 0;
          for (MCell c : p.cells) {
            long lack = (long) x * c.capacity * 36 / 10 - c.charge;
            long h = 0;
            while (h * 3600 * y < lack) h++;
            most = Math.max(most, h);
          }
          return most;
        }
        case "energy": {
          long e = 0;
          for (MCell c : p.cells) e += c.charge * rest(c.part());
          return e / 3600000;
        }
        case "below": {
          if (!in(x, 0, 1000)) return NONE;
          int k = 0;
          for (long q : parts) if (q < x) k++;
          return k;
        }
        case "rest": return in(x, 0, 1000) ? rest(x) : NONE;
        case "partBy": return partBy(x);
        case "limit": return in(x, 0, 1) && n > 0 ? p.limit(x) : NONE;
        case "worst": return in(x, 0, 1) && n > 0 ? p.worst(x) : NONE;
        case "spread": return p.spread();
        case "when": return in(x, 0, 10) ? p.when[x] : NONE;
        case "room": {
          if (!in(x, 0, 1) || n == 0) return NONE;
          long r = Long.MAX_VALUE;
          for (MCell c : p.cells) r = Math.min(r, x == 0 ? c.full() - c.charge : c.charge);
          return r;
        }
        case "fullness": {
          long have = 0, full = 0;
          for (MCell c : p.cells) { have += c.charge; full += c.full(); }
          return n == 0 ? 0 : Double.doubleToLongBits((double) have / (double) full);
        }
        case "off": {
          float sum = 0;
          for (MCell c : p.cells) sum += Math.abs(c.reckonedPart() - c.part());
          return n == 0 ? 0 : Float.floatToIntBits(sum / n);
        }
        default: return foretell(name, x, y, z);
      }
    }

    long middle(long[] parts) {
      long[] sorted = parts.clone();
      Arrays.sort(sorted);
      return sorted[(sorted.length - 1) / 2];
    }
    long goal() {
      long have = 0, full = 0;
      for (MCell c : p.cells) { have += c.charge; full += c.full(); }
      return have * 1000 / full;
    }

    /** Best price and bits for hours from one on, by plain recursion with a memory. */
    long cheapest(int k, int m, int what) {
      if (!in(k, 0, 24) || !in(m, 1, 12) || !in(what, 0, 1)) return NONE;
      long[] best = best(23, k, m, false, new HashMap<>());
      return best == null ? NONE : best[what];
    }
    long[] best(int hour, int k, int m, boolean above, Map<Integer, long[]> seen) {
      if (k == 0) return new long[] {0, 0};
      if (hour < 0) return null;
      int key = ((hour * 25 + k) * 13 + m) * 2 + (above ? 1 : 0);
      if (seen.containsKey(key)) return seen.get(key);
      long[] off = best(hour - 1, k, m, false, seen);
      int left = above ? m : m - 1;
      long[] on = left < 0 ? null : best(hour - 1, k - 1, left, true, seen);
      if (on != null) on = new long[] {on[0] + p.prices[hour], on[1] + (1L << hour)};
      long[] r = off == null ? on : on == null ? off
          : on[0] < off[0] || on[0] == off[0] && on[1] < off[1] ? on : off;
      seen.put(key, r);
      return r;
    }

    long foretell(String name, int x, int y, int z) {
      int n = p.cells.size();
      MState t = p.copy();
      switch (name) {
        case "foretold":
        case "foretoldOf":
          if (!in(x, 1, 300)) return BAD;
          for (int i = 0; i < x; i++) t.second();
          return name.equals("foretold") ? t.is(y) : t.of(y, z);
        case "driven": t.driveOn(); return t.is(x);
        case "bare":
          for (int i = 1; i <= 2000; i++) { t.second(); if (!t.worked) return i; }
          return NONE;
        case "harm":
          if (!in(x, 1, 300) || t.time + x > 9999) return NONE;
          for (int i = 0; i < x; i++) {
            int before = t.latched;
            t.second();
            for (int f = 0; f < 11; f++) if ((t.latched & ~before) >> f != 0 && ((t.latched & ~before) >> f & 1) == 1) return f;
          }
          return NONE;
        case "power": {
          if (!in(x, 0, 1) || !in(y, 1, 60) || p.state != 2 || p.time + y > 9999) return NONE;
          for (long r = p.s[4] / 100 * 100; r > 0; r -= 100) {
            long want = x == 0 ? r : -r;
            t = p.copy();
            t.rules.clear();
            t.s[23] = 0;
            t.s[20] = want;
            boolean fine = true;
            for (int i = 0; fine && i < y; i++) fine = t.second() == 0 && t.current == want;
            if (fine) return want;
          }
          return 0;
        }
        case "bestBand":
          if (!in(x, 1, 60) || !in(y, 0, 1000) || n == 0) return NONE;
          for (int b = 99; b >= 0; b--) {
            t = p.copy();
            t.s[14] = b;
            for (int i = 0; i < x; i++) t.second();
            if (t.spread() <= y) return b;
          }
          return NONE;
        case "yields":
          if (!in(x, 1, 99999)) return NONE;
          t.rules.clear();
          t.s[20] = -x;
          for (int i = 1; i <= 2000 && t.time < 9999; i++) { t.second(); if (t.current != -x) return i; }
          return NONE;
        case "eta":
          if (!in(x, 0, 1)) return NONE;
          for (int i = 0; i <= 2000; i++) {
            for (MCell c : t.cells) if (c.charge == (x == 0 ? c.full() : 0)) return i;
            t.second();
          }
          return NONE;
        case "bestMode": {
          if (!in(x, 1, 300) || n == 0) return NONE;
          long best = 2000, mode = NONE;
          for (int m = 0; m < 3; m++) {
            t = p.copy();
            t.s[11] = m;
            for (int i = 0; i < x; i++) t.second();
            if (t.spread() < best) { best = t.spread(); mode = m; }
          }
          return mode;
        }
        default: throw new IllegalStateException(name);
      }
    }
  }

  // ------------------------------------------------------------------ random runs

  static final Map<String, Method> FACE = new HashMap<>();

  static long real(PackWatch w, String name, int[] a) throws Exception {
    Method m = FACE.get(name);
    Object[] args = new Object[a.length];
    for (int i = 0; i < a.length; i++)
      args[i] = m.getParameterTypes()[i] == boolean.class ? (Object) (a[i] == 1) : (Object) a[i];
    try {
      Object r = m.invoke(w, args);
      return r instanceof Boolean ? ((Boolean) r ? 1 : 0) : ((Number) r).longValue();
    } catch (InvocationTargetException e) {
      System.out.println(name + Arrays.toString(a) + " threw " + e.getCause());
      wrong++;
      return Long.MIN_VALUE;
    }
  }

  static int wrong = 0;
  static Random r;
  static int upTo(int least, int most) { return least + r.nextInt(most - least + 1); }
  static int odd() {
    int[] odds = {-1, 0, 1, 2, 16, 24, 1000, Integer.MAX_VALUE, Integer.MIN_VALUE, -2, 99, 300, 301, 10000};
    return odds[r.nextInt(odds.length)];
  }
  /** Mostly within, at times at an edge, one beyond it, or far away. */
  static int near(int least, int most) {
    int k = r.nextInt(40);
    if (k == 0) return least - 1;
    if (k == 1) return most + 1;
    if (k == 2) return odd();
    if (k < 6) return least;
    if (k < 9) return most;
    return upTo(least, most);
  }
  static int aCell(MState p) { return near(0, Math.max(0, p.cells.size() - 1)); }

  static int settingValue(int what) {
    if (what < 0 || what > 29) return upTo(0, 100);
    int k = r.nextInt(3);
    if (k == 0) return BOUNDS[what][2];
    if (what == 20) return k == 1 ? near(-9000, 9000) : near(-99999, 99999);
    if (what == 24) return k == 1 ? upTo(0, 5) : near(0, 9999);
    if (what == 23) return k == 1 ? upTo(3500, 4300) : near(0, 4500);
    if (what == 29) return r.nextInt(8) == 0 ? 0 : near(1, 1);
    if (what == 14) return k == 1 ? upTo(0, 60) : near(0, 999);
    if (what == 28) return k == 1 ? upTo(0, 60) : near(0, 999);
    if (what == 3) return k == 1 ? upTo(-20, 30) : near(-400, 200);
    if (what == 19) return k == 1 ? upTo(1, 5) : near(1, 99);
    if (what == 15 || what == 12) return near(0, 9999);
    return near(BOUNDS[what][0], BOUNDS[what][1]);
  }

  static final String[] ACTS = {
    "cell", "charge", "warm", "set", "set", "set", "set", "run", "run", "run", "run", "run", "close", "close", "open", "reset",
    "reset", "stuck", "zone", "hear", "price", "mark", "piece", "rule", "unrule", "wipe", "drive", "undo", "image", "back"};
  static final String[] TELLS = {
    "is", "setting", "of", "ruleOf", "module", "zoneOf", "cycles", "turn", "stuckAs", "warnings", "need", "trace",
    "culprit", "since", "rank", "middle", "scatter", "goal", "flow", "halves", "cheapest", "hours", "energy", "below",
    "rest", "partBy", "limit", "worst", "spread", "mayReset", "when", "book", "driveOf", "room", "fullness", "off",
    "foretold", "foretoldOf", "driven", "bare", "harm", "power", "bestBand", "yields", "eta", "bestMode", "steps"};

  static int[] argsFor(String name, MState p) {
    switch (name) {
      case "cell": return new int[] {r.nextBoolean() ? near(100, 300) : near(100, 9999), near(0, 1000), near(0, 99)};
      case "charge": { int c = aCell(p); return new int[] {c, near(0, c >= 0 && c < p.cells.size() ? (int) p.cells.get(c).full() : 9)}; }
      case "warm": return new int[] {aCell(p), r.nextBoolean() ? upTo(-20, 700) : near(-400, 1200)};
      case "set": { int w = r.nextInt(4) == 0 ? 20 : r.nextInt(6) == 0 ? 11 : near(0, 29); return new int[] {w, settingValue(w)}; }
      case "run": return new int[] {r.nextInt(8) == 0 ? near(1, 300) : upTo(1, 15)};
      case "reset": case "when": case "mayReset": return new int[] {near(0, 10)};
      case "stuck": return new int[] {near(0, 2), r.nextInt(2) == 0 ? 0 : near(0, 2)};
      case "zone": return new int[] {r.nextBoolean() ? upTo(0, 600) : near(-400, 1200), r.nextBoolean() ? near(0, 99999) : upTo(0, 9000)};
      case "price": return new int[] {near(0, 23), r.nextBoolean() ? upTo(0, 4) : near(0, 999)};
      case "mark": case "stuckAs": return new int[] {near(0, 2)};
      case "piece": return new int[] {r.nextBoolean() ? upTo(-5000, 5000) : near(-99999, 99999), r.nextInt(3) == 0 ? near(1, 99) : upTo(1, 9)};
      case "rule": { int w = near(0, 13), s = near(0, 29);
        return new int[] {w, r.nextInt(2), r.nextBoolean() ? upTo(-10, 4000) : odd(), s, settingValue(s)}; }
      case "is": return new int[] {near(0, 15)};
      case "setting": return new int[] {near(0, 29)};
      case "of": return new int[] {aCell(p), near(0, 18)};
      case "ruleOf": return new int[] {near(-1, 8), near(0, 4)};
      case "module": return new int[] {near(0, 3), near(0, 3)};
      case "zoneOf": return new int[] {near(-1, 6), near(0, 1)};
      case "cycles": return new int[] {aCell(p), near(0, 10)};
      case "turn": return new int[] {aCell(p), near(0, 5)};
      case "need": case "rank": case "flow": return new int[] {aCell(p)};
      case "trace": return new int[] {near(-1, 32), near(0, 2)};
      case "culprit": return new int[] {near(0, 3)};
      case "since": return new int[] {near(0, 2), aCell(p), near(0, 3)};
      case "halves": case "limit": case "worst": case "room": case "eta": return new int[] {near(0, 1)};
      case "cheapest": return new int[] {near(0, 24), near(1, 12), near(0, 1)};
      case "hours": return new int[] {near(0, 1000), r.nextBoolean() ? near(1, 99999) : upTo(100, 2000)};
      case "below": case "rest": return new int[] {near(0, 1000)};
      case "partBy": return new int[] {near(2990, 4210)};
      case "book": return new int[] {near(-1, 24), near(0, 1)};
      case "driveOf": return new int[] {near(0, 24), near(0, 1)};
      case "foretold": return new int[] {r.nextInt(4) == 0 ? near(1, 300) : upTo(1, 20), near(0, 15)};
      case "foretoldOf": return new int[] {r.nextInt(4) == 0 ? near(1, 300) : upTo(1, 20), aCell(p), near(0, 18)};
      case "driven": return new int[] {near(0, 15)};
      case "harm": case "bestMode": return new int[] {r.nextBoolean() ? upTo(1, 20) : near(1, 300)};
      case "power": return new int[] {near(0, 1), r.nextInt(4) == 0 ? near(1, 60) : upTo(1, 5)};
      case "bestBand": return new int[] {r.nextInt(4) == 0 ? near(1, 60) : upTo(1, 5), near(0, 1000)};
      case "yields": return new int[] {near(1, 99999)};
      default: return new int[0];
    }
  }

  static boolean same(PackWatch w, Model m, String name, int[] a, List<String> told) throws Exception {
    long want = m.call(name, a), got = real(w, name, a);
    told.add(name + Arrays.toString(a) + " -> " + got);
    if (want == got) return true;
    wrong++;
    System.out.println("differs: due " + want + " in the run " + told);
    return false;
  }

  /** All that can be told of the pack, so that a wrong state shows at once. */
  static boolean sameAll(PackWatch w, Model m, List<String> told) throws Exception {
    List<String> aside = new ArrayList<>();
    for (int i = 0; i < 16; i++) if (!same(w, m, "is", new int[] {i}, aside)) return tellRun(told);
    for (int i = 0; i < 30; i++) if (!same(w, m, "setting", new int[] {i}, aside)) return tellRun(told);
    for (int c = 0; c < m.p.cells.size(); c++) {
      for (int i = 0; i < 19; i++) if (!same(w, m, "of", new int[] {c, i}, aside)) return tellRun(told);
      for (int i = 0; i < 33; i++) if (!same(w, m, "turn", new int[] {c, i}, aside)) return tellRun(told);
      for (int i = 0; i < 11; i++) if (!same(w, m, "cycles", new int[] {c, i}, aside)) return tellRun(told);
      for (int i = 0; i < 12; i++) if (!same(w, m, "since", new int[] {i % 3, c, i / 3}, aside)) return tellRun(told);
    }
    for (int i = -1; i < 33; i++) {
      for (int k = 0; k < 5; k++)
        for (String s : new String[] {"ruleOf", "zoneOf", "trace", "book", "driveOf"})
          if (!same(w, m, s, new int[] {i, k}, aside)) return tellRun(told);
      for (String s : new String[] {"stuckAs", "culprit", "when", "mayReset"})
        if (!same(w, m, s, new int[] {i}, aside)) return tellRun(told);
    }
    return same(w, m, "steps", new int[0], told);
  }
  static boolean tellRun(List<String> told) {
    System.out.println("  behind the run " + told);
    return false;
  }

  static int latchedBits = 0;
  static int cyclesSeen = 0;

  static void oneRun(long seed, int calls) throws Exception {
    r = new Random(seed);
    PackWatch w = new PackWatch();
    Model m = new Model();
    List<String> told = new ArrayList<>();
    int cellsWanted = r.nextInt(5) == 0 ? r.nextInt(18) : r.nextInt(6);
    told.add("seed " + seed);
    for (int i = 0; i < cellsWanted; i++) {
      int[] a = argsFor("cell", m.p);
      if (r.nextInt(3) > 0) a[1] = upTo(450, 550);
      if (!same(w, m, "cell", a, told)) return;
    }
    boolean calm = r.nextInt(3) > 0;
    for (int i = 0; i < calls; i++) {
      boolean act = r.nextInt(3) > 0;
      String name = act ? ACTS[r.nextInt(ACTS.length)] : TELLS[r.nextInt(TELLS.length)];
      if (calm && (name.equals("stuck") || name.equals("rule") || name.equals("warm")) && r.nextInt(4) > 0) name = "run";
      if ((name.equals("image") || name.equals("back") || name.equals("undo")) && r.nextInt(3) > 0) name = "close";
      if (!act && i % 7 == 0) name = "of";
      if (!same(w, m, name, argsFor(name, m.p), told)) return;
      if (r.nextInt(12) == 0 && !sameAll(w, m, told)) return;
    }
    latchedBits |= m.p.latched;
    for (MCell c : m.p.cells) for (long k : c.cycles) cyclesSeen += k;
    sameAll(w, m, told);
  }

  /** A pack that goes on: calm settings, closed, requests that turn about, so that much is let through. */
  static void driveRun(long seed, int calls) throws Exception {
    r = new Random(seed);
    PackWatch w = new PackWatch();
    Model m = new Model();
    List<String> told = new ArrayList<>();
    told.add("drive seed " + seed);
    int cellsWanted = 1 + r.nextInt(r.nextInt(4) == 0 ? 16 : 5);
    for (int i = 0; i < cellsWanted; i++)
      if (!same(w, m, "cell", new int[] {upTo(100, 250), upTo(400, 600), r.nextInt(3) == 0 ? upTo(0, 99) : upTo(0, 9)}, told)) return;
    int[][] calmSets = {{8, 0}, {17, 2000}, {0, 4500}, {1, 2000}, {4, 9000}, {5, 999}};
    for (int[] s : calmSets) if (r.nextInt(5) > 0 && !same(w, m, "set", s, told)) return;
    int[][] others = {{25, upTo(0, 99)}, {24, upTo(0, 3)}, {22, upTo(0, 64)}, {27, upTo(0, 50)}, {18, upTo(-50, 50)},
      {11, upTo(0, 2)}, {14, upTo(0, 30)}, {19, upTo(1, 4)}, {23, upTo(3600, 4200)}, {16, upTo(0, 100)}, {15, upTo(0, 5000)}};
    for (int[] s : others) if (r.nextInt(3) == 0 && !same(w, m, "set", s, told)) return;
    if (!same(w, m, "close", new int[0], told) || !same(w, m, "run", new int[] {12}, told)) return;
    for (int i = 0; i < calls; i++) {
      int k = r.nextInt(20);
      boolean ok;
      if (k < 6) ok = same(w, m, "set", new int[] {20, r.nextInt(4) == 0 ? 0 : upTo(-6000, 6000)}, told);
      else if (k < 14) ok = same(w, m, "run", new int[] {upTo(1, 8)}, told);
      else if (k == 14) ok = same(w, m, "piece", argsFor("piece", m.p), told);
      else if (k == 15) ok = same(w, m, "drive", new int[0], told);
      else { String name = TELLS[r.nextInt(TELLS.length)]; ok = same(w, m, name, argsFor(name, m.p), told); }
      if (!ok) return;
      if (m.p.latched != 0) {
        for (int f = 0; f < 11; f++) if ((m.p.latched >> f & 1) == 1) {
          if (!same(w, m, "run", new int[] {10}, told) || !same(w, m, "reset", new int[] {f}, told)) return;
        }
        if (!same(w, m, "close", new int[0], told)) return;
      }
      if (i % 10 == 0 && !sameAll(w, m, told)) return;
    }
    latchedBits |= m.p.latched;
    for (MCell c : m.p.cells) for (long q : c.cycles) cyclesSeen += q;
    sameAll(w, m, told);
  }

  /** What lets the greatest currents through. */
  static final int[][] WIDE = {{0, 4500}, {1, 2000}, {2, 900}, {3, -400}, {4, 99999}, {5, 999}, {8, 0}, {17, 2000}, {21, 1}, {25, 99}};

  /** Far out: the greatest currents, what is told goes to its bounds between SECONDS. */
  static void farRun(long seed, int calls) throws Exception {
    r = new Random(seed);
    PackWatch w = new PackWatch();
    Model m = new Model();
    List<String> told = new ArrayList<>();
    told.add("far seed " + seed);
    int cellsWanted = 1 + r.nextInt(r.nextInt(4) == 0 ? 16 : 3);
    for (int i = 0; i < cellsWanted; i++)
      if (!same(w, m, "cell", new int[] {edge(100, 9999), edge(0, 1000), edge(0, 99)}, told)) return;
    for (int[] s : WIDE) if (!same(w, m, "set", s, told)) return;
    for (int i = 0; i < calls; i++) {
      String name = FAR_ACTS[r.nextInt(FAR_ACTS.length)];
      if (name.equals("tell")) name = TELLS[r.nextInt(TELLS.length)];
      if (!same(w, m, name, farArgs(name, m.p), told)) return;
      for (int f = 0; f < 11 && r.nextInt(3) == 0; f++) if (!same(w, m, "reset", new int[] {f}, told)) return;
      if (i % 10 == 0 && !sameAll(w, m, told)) return;
    }
    sameAll(w, m, told);
  }
  static final String[] FAR_ACTS = {"set", "set", "set", "set", "set", "set", "charge", "warm", "stuck", "close", "close", "open",
    "run", "run", "run", "run", "tell", "tell", "tell", "tell"};
  static int[] farArgs(String name, MState p) {
    int cell = r.nextInt(p.cells.size()), setting = r.nextInt(29);
    switch (name) {
      case "set":
        if (r.nextInt(6) == 0) return WIDE[r.nextInt(WIDE.length)];
        if (r.nextInt(6) > 0) setting = 20;
        return new int[] {setting, edge(BOUNDS[setting][0], BOUNDS[setting][1])};
      case "charge": return new int[] {cell, edge(0, (int) p.cells.get(cell).full())};
      case "warm": return new int[] {cell, edge(-400, 1200)};
      case "stuck": return new int[] {r.nextInt(3), r.nextInt(3)};
      case "run": return new int[] {r.nextInt(6) == 0 ? upTo(1, 300) : upTo(1, 4)};
      default: return argsFor(name, p);
    }
  }
  static int edge(int least, int most) {
    int k = r.nextInt(4);
    return k == 0 ? least : k == 1 ? most : upTo(least, most);
  }

  /** Near the end of TIME, where some calls are refused and some stop. */
  static void lateRun(long seed) throws Exception {
    r = new Random(seed);
    PackWatch w = new PackWatch();
    Model m = new Model();
    List<String> told = new ArrayList<>();
    told.add("late seed " + seed);
    for (int i = 0; i < 2; i++) if (!same(w, m, "cell", new int[] {200, upTo(300, 600), 2}, told)) return;
    for (int i = 0; i < 33; i++) if (!same(w, m, "run", new int[] {300}, told)) return;
    if (!same(w, m, "close", new int[0], told)) return;
    if (!same(w, m, "run", new int[] {60 + r.nextInt(30)}, told)) return;
    if (!same(w, m, "set", new int[] {20, upTo(-2000, 2000)}, told)) return;
    if (!same(w, m, "set", new int[] {11, r.nextInt(3)}, told)) return;
    for (int i = 0; i < 60; i++) {
      String name = i % 5 == 0 ? "run" : TELLS[36 + r.nextInt(TELLS.length - 36)];
      int[] a = i % 15 == 0 ? new int[] {1} : argsFor(name, m.p);
      if (i % 15 == 0) name = "run";
      if (i == 20) { name = "piece"; a = new int[] {500, 99}; }
      if (i == 30) { name = "drive"; a = new int[0]; }
      if (!same(w, m, name, a, told)) return;
    }
    sameAll(w, m, told);
  }

  public static void main(String[] args) throws Exception {
    for (Method m : PackWatch.class.getDeclaredMethods())
      if (java.lang.reflect.Modifier.isPublic(m.getModifiers())) FACE.put(m.getName(), m);
    int runs = args.length > 0 ? Integer.parseInt(args[0]) : 150;
    long from = args.length > 1 ? Long.parseLong(args[1]) : 1;
    for (long seed = from; seed < from + runs && wrong < 5; seed++) {
      oneRun(seed, 250);
      driveRun(seed, 150);
      farRun(seed, 200);
      if (seed % 10 == 0) lateRun(seed);
    }
    System.out.println(wrong == 0 ? "both readings agree (faults seen " + latchedBits + ", cycles " + cyclesSeen + ")"
        : wrong + " answers differ");
    if (wrong != 0) System.exit(1);
  }
}
