import java.util.ArrayList;
import java.util.List;
import java.util.function.Supplier;

/**
 * A call that is refused answers as the document says, and nothing has changed by it: a pack that heard it answers
 * as one that did not, whatever is asked, also when STEPS are taken back and when it is brought BACK. Likewise for
 * what is only told.
 */
public final class RefusedCallsTest extends Questions {
  static final class Refused {
    final String call;
    final long answer;
    final Ask ask;
    Refused(String call, long answer, Ask ask) { this.call = call; this.answer = answer; this.ask = ask; }
  }

  // ---- packs

  /** CLOSED, with something of all that can be told, CURRENT, THROUGH, TURNS, MARKS, an IMAGE. */
  static PackWatch going() {
    PackWatch x = closed(110, 500, 30, 120, 520, 0, 130, 480, 5);
    set(x, 24, 1, 25, 50, 22, 30, 19, 2, 18, 3, 11, 1, 14, 0, 0, 4500, 1, 2000);
    x.zone(-400, 30000);
    x.zone(300, 2500);
    x.rule(2, false, -5, 14, 3);
    x.price(7, 7);
    x.mark(1);
    for (int q : new int[] {5000, -3000, 1500, 0, 3500}) {
      set(x, 20, q);
      x.run(3);
    }
    x.image();
    x.warm(1, 310);
    set(x, 11, 2, 28, 30);
    x.piece(2000, 3);
    x.piece(-500, 2);
    x.run(2);
    return x;
  }
  /** 16 CELLS, 24 PIECES, 6 ZONES, 8 RULES, 20 STEPS, OPEN. */
  static PackWatch filled() {
    PackWatch x = new PackWatch();
    for (int i = 0; i < 16; i++) x.cell(100 + i, 490 + i, i);
    for (int i = 0; i < 8; i++) x.rule(i, true, 9000 + i, 14, i);
    for (int i = 0; i < 6; i++) x.zone(1000 + i, 50000 - i);
    for (int i = 0; i < 24; i++) x.piece(10 * i, 1 + i % 2);
    x.run(3);
    return x;
  }
  /** LOOSE and SILENT latched, COOLING not over. */
  static PackWatch faulty() {
    PackWatch x = set(cells(100, 500, 3, 200, 600, 4), 29, 0, 28, 2, 21, 50);
    x.run(4);
    x.image();
    set(x, 29, 1);
    x.run(6);
    return x;
  }
  static PackWatch precharge() {
    PackWatch x = set(cells(100, 500, 3, 200, 600, 4), 8, 0);
    x.close();
    x.run(4);
    return x;
  }
  static PackWatch atTheEnd() {
    PackWatch x = at(set(cells(100, 500, 3, 200, 600, 4), 11, 1, 14, 0), 9998);
    x.piece(5, 1);
    x.piece(6, 1);
    return x;
  }

  // ---- calls

  static final List<Refused> ALWAYS = new ArrayList<>();
  static void no(String call, long answer, Ask ask) { ALWAYS.add(new Refused(call, answer, ask)); }

  /** Numbers that are for others in each state. */
  static void always() {
    for (int n : new int[] {99, 10000, MIN, MAX}) no("cell(" + n + ", 500, 5)", NONE, x -> x.cell(n, 500, 5));
    for (int n : new int[] {-1, 1001, MIN, MAX}) no("cell(100, " + n + ", 5)", NONE, x -> x.cell(100, n, 5));
    for (int n : new int[] {-1, 100, MIN, MAX}) no("cell(100, 500, " + n + ")", NONE, x -> x.cell(100, 500, n));
    for (int n : new int[] {-1, 16, MIN, MAX}) no("charge(" + n + ", 5)", 0, x -> num(x.charge(n, 5)));
    for (int n : new int[] {-1, 9999 * 3600 + 1, MIN, MAX}) no("charge(0, " + n + ")", 0, x -> num(x.charge(0, n)));
    for (int n : new int[] {-1, 16, MIN, MAX}) no("warm(" + n + ", 5)", 0, x -> num(x.warm(n, 5)));
    for (int n : new int[] {-401, 1201, MIN, MAX}) no("warm(0, " + n + ")", 0, x -> num(x.warm(0, n)));
    for (int n : new int[] {-1, 30, MIN, MAX}) no("set(" + n + ", 1)", 0, x -> num(x.set(n, 1)));
    for (int what = 0; what < 30; what++) {
      int w = what;
      for (int n : new int[] {LEAST[w] - 1, MOST[w] + 1, MIN, MAX}) no("set(" + w + ", " + n + ")", 0, x -> num(x.set(w, n)));
    }
    for (int n : new int[] {0, 301, -1, MIN, MAX}) no("run(" + n + ")", NONE, x -> x.run(n));
    for (int n : new int[] {-1, 11, 0, 42, MIN, MAX}) no("reset(" + n + ")", 0, x -> num(x.reset(n)));
    for (int n : new int[] {-1, 3, MIN, MAX}) no("stuck(" + n + ", 1)", 0, x -> num(x.stuck(n, 1)));
    for (int n : new int[] {-1, 3, MIN, MAX}) no("stuck(1, " + n + ")", 0, x -> num(x.stuck(1, n)));
    for (int n : new int[] {-401, 1201, MIN, MAX}) no("zone(" + n + ", 5)", NONE, x -> x.zone(n, 5));
    for (int n : new int[] {-1, 100000, MIN, MAX}) no("zone(1200, " + n + ")", NONE, x -> x.zone(1200, n));
    for (int n : new int[] {-1, 24, MIN, MAX}) no("price(" + n + ", 5)", 0, x -> num(x.price(n, 5)));
    for (int n : new int[] {-1, 1000, MIN, MAX}) no("price(5, " + n + ")", 0, x -> num(x.price(5, n)));
    for (int n : new int[] {-1, 3, MIN, MAX}) no("mark(" + n + ")", 0, x -> num(x.mark(n)));
    for (int n : new int[] {-100000, 100000, MIN, MAX}) no("piece(" + n + ", 5)", NONE, x -> x.piece(n, 5));
    for (int n : new int[] {0, 100, MIN, MAX}) no("piece(5, " + n + ")", NONE, x -> x.piece(5, n));
    for (int n : new int[] {-1, 14, MIN, MAX}) no("rule(" + n + ", true, 5, 14, 7)", NONE, x -> x.rule(n, true, 5, 14, 7));
    for (int n : new int[] {-1, 30, MIN, MAX}) no("rule(6, true, 5, " + n + ", 1)", NONE, x -> x.rule(6, true, 5, n, 1));
    for (int n : new int[] {-1, 1000, MIN, MAX}) no("rule(6, false, 5, 14, " + n + ")", NONE, x -> x.rule(6, false, 5, 14, n));
  }

  static List<Refused> also(Object... told) {
    List<Refused> list = new ArrayList<>();
    for (int i = 0; i + 2 < told.length; i += 3) list.add(new Refused((String) told[i], (Integer) told[i + 1], (Ask) told[i + 2]));
    return list;
  }
  static Ask ask(Ask a) { return a; }

  /** All of them in one pack, as many as there are calls for; then each of the pack's own by itself. */
  static void nothingChanged(String told, Supplier<PackWatch> made, List<Refused> own) {
    test(told + ": numbers for others change nothing", () -> {
      for (int from = 0; from < ALWAYS.size(); from += 100) {
        List<Refused> some = ALWAYS.subList(from, Math.min(ALWAYS.size(), from + 100));
        compare(told + ", behind " + some.get(0).call + " and more", made, some);
      }
    });
    for (Refused r : own) test(told + ": " + r.call + " is refused and changes nothing", () -> compare(told + ", behind " + r.call, made, List.of(r)));
  }
  static void compare(String told, Supplier<PackWatch> made, List<Refused> calls) {
    Supplier<PackWatch> heard = () -> {
      PackWatch x = made.get();
      for (Refused r : calls) due(told + ": " + r.call, r.ask.of(x), r.answer);
      return x;
    };
    alike(told, heard, made);
    stepsAlike(told, heard, made);
    imagesAlike(told, heard, made);
  }

  static void refusals() {
    nothingChanged("new", PackWatch::new, also(
        "charge(0, 0)", 0, ask(x -> num(x.charge(0, 0))), "warm(0, 250)", 0, ask(x -> num(x.warm(0, 250))),
        "close()", 0, ask(x -> num(x.close())), "open()", 0, ask(x -> num(x.open())), "reset(5)", 0, ask(x -> num(x.reset(5))),
        "drive()", NONE, ask(x -> x.drive()), "undo()", NONE, ask(x -> x.undo())));
    nothingChanged("CLOSED", RefusedCallsTest::going, also(
        "close()", 0, ask(x -> num(x.close())), "reset(5)", 0, ask(x -> num(x.reset(5))), "charge(3, 0)", 0, ask(x -> num(x.charge(3, 0))),
        "warm(3, 0)", 0, ask(x -> num(x.warm(3, 0))), "zone(300, 5)", NONE, ask(x -> x.zone(300, 5)), "zone(299, 5)", NONE, ask(x -> x.zone(299, 5)),
        "charge(0, 360001)", 0, ask(x -> num(x.charge(0, x.of(0, 0) * 3600 + 1)))));
    nothingChanged("full lists", RefusedCallsTest::filled, also(
        "a 17th CELL", NONE, ask(x -> x.cell(100, 500, 5)), "a 25th PIECE", NONE, ask(x -> x.piece(5, 5)), "a 7th ZONE", NONE, ask(x -> x.zone(1200, 5)),
        "a 9th RULE", NONE, ask(x -> x.rule(6, true, 5, 14, 7)), "open()", 0, ask(x -> num(x.open())), "reset(5)", 0, ask(x -> num(x.reset(5)))));
    nothingChanged("FAULTS latched", RefusedCallsTest::faulty, also(
        "close()", 0, ask(x -> num(x.close())), "open()", 0, ask(x -> num(x.open())), "reset(10), too early", 0, ask(x -> num(x.reset(10))),
        "reset(9), so till now", 0, ask(x -> num(x.reset(9))), "reset(8), not latched", 0, ask(x -> num(x.reset(8))), "drive()", NONE, ask(x -> x.drive())));
    nothingChanged("PRECHARGE", RefusedCallsTest::precharge, also("close()", 0, ask(x -> num(x.close())), "reset(5)", 0, ask(x -> num(x.reset(5)))));
    nothingChanged("TIME 9998", RefusedCallsTest::atTheEnd, also(
        "run(2)", NONE, ask(x -> x.run(2)), "run(300)", NONE, ask(x -> x.run(300)), "drive()", NONE, ask(x -> x.drive())));
  }

  // ---- what follows changes nothing but what is told (III)

  static void tellings() {
    List<String> names = List.of("new", "CLOSED", "full lists", "FAULTS latched", "PRECHARGE", "TIME 9998");
    List<Supplier<PackWatch>> packs = List.of(PackWatch::new, RefusedCallsTest::going, RefusedCallsTest::filled, RefusedCallsTest::faulty,
        RefusedCallsTest::precharge, RefusedCallsTest::atTheEnd);
    for (int i = 0; i < names.size(); i++) {
      Supplier<PackWatch> made = packs.get(i);
      String told = names.get(i);
      test(told + ": III. what is told changes nothing", () -> {
        for (List<Question> part : PARTS) {
          Supplier<PackWatch> asked = () -> {
            PackWatch x = made.get();
            for (Question q : part) q.ask.of(x);
            return x;
          };
          String behind = told + ", behind " + part.get(0).call + " and more";
          alike(behind, asked, made);
          imagesAlike(behind, asked, made);
        }
      });
      test(told + ": image() changes nothing but THE IMAGE, and is no STEP", () -> {
        Supplier<PackWatch> imaged = () -> {
          PackWatch x = made.get();
          due("image()", x.image(), x.is(6));
          return x;
        };
        alike(told + ", behind image()", imaged, made);
        stepsAlike(told + ", behind image()", imaged, made);
      });
      test(told + ": BACK: all is so again", () -> {
        Supplier<PackWatch> there = () -> {
          PackWatch x = made.get();
          x.image();
          set(x, 14, 5, 29, 0, 6, -100);
          if (x.is(6) < 9900) x.run(20);
          x.cell(500, 500, 5);
          x.mark(0);
          x.zone(1200, 5);
          x.unrule();
          x.wipe();
          x.open();
          x.back();
          return x;
        };
        alike(told + ", behind image() and back()", there, made);
        stepsAlike(told + ", behind image() and back()", there, made);
      });
    }
  }

  public static void main(String[] args) {
    always();
    refusals();
    tellings();
    finish("RefusedCallsTest");
  }
}
