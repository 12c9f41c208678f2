import java.lang.reflect.Constructor;
import java.lang.reflect.Field;
import java.lang.reflect.Method;
import java.lang.reflect.Modifier;
import java.util.Arrays;
import java.util.Set;
import java.util.TreeSet;

/** The face of PackWatch is the document's, and nothing else of it can be seen from outside. */
public final class FaceTest {
  static final String FACE = "int cell(int,int,int); boolean charge(int,int); boolean warm(int,int); boolean set(int,int); "
      + "int run(int); boolean close(); boolean open(); boolean reset(int); boolean stuck(int,int); int zone(int,int); int hear(); "
      + "boolean price(int,int); boolean mark(int); int piece(int,int); int rule(int,boolean,int,int,int); int unrule(); int wipe(); "
      + "int drive(); int undo(); int is(int); int setting(int); int of(int,int); int ruleOf(int,int); int module(int,int); "
      + "int zoneOf(int,int); int cycles(int,int); int turn(int,int); int stuckAs(int); int warnings(); int need(int); "
      + "int trace(int,int); int culprit(int); int since(int,int,int); int rank(int); int middle(); int scatter(); int goal(); "
      + "int flow(int); int halves(int); int cheapest(int,int,int); int hours(int,int); int energy(); int below(int); int rest(int); "
      + "int partBy(int); int limit(int); int worst(int); int spread(); boolean mayReset(int); int when(int); int book(int,int); "
      + "int driveOf(int,int); int room(int); long fullness(); int off(); int foretold(int,int); int foretoldOf(int,int,int); "
      + "int driven(int); int bare(); int harm(int); int power(int,int); int bestBand(int,int); int yields(int); int eta(int); "
      + "int bestMode(int); int image(); int back(); int steps()";

  static int wrong = 0;
  static void check(boolean fits, String what) {
    if (!fits) { wrong++; System.out.println(what); }
  }

  public static void main(String[] args) throws Exception {
    Set<String> due = new TreeSet<>(Arrays.asList(FACE.split("; ")));
    Set<String> seen = new TreeSet<>();
    Set<String> names = new TreeSet<>();
    for (String d : due) names.add(d.substring(d.indexOf(' ') + 1, d.indexOf('(')));
    for (Method m : PackWatch.class.getDeclaredMethods()) {
      if (Modifier.isPrivate(m.getModifiers())) {
        check(!names.contains(m.getName()), "a private method has a public one's name: " + m);
        continue;
      }
      check(Modifier.isPublic(m.getModifiers()) && !Modifier.isStatic(m.getModifiers()), "visible beside the face: " + m);
      StringBuilder b = new StringBuilder(m.getReturnType() + " " + m.getName() + "(");
      for (Class<?> p : m.getParameterTypes()) b.append(p).append(',');
      if (m.getParameterCount() > 0) b.setLength(b.length() - 1);
      seen.add(b.append(')').toString());
    }
    check(due.equals(seen), "the face is not as due: " + seen);
    for (Field f : PackWatch.class.getDeclaredFields()) {
      boolean none = f.getName().equals("NONE") && Modifier.isPublic(f.getModifiers()) && Modifier.isStatic(f.getModifiers())
          && Modifier.isFinal(f.getModifiers()) && f.getType() == int.class && f.getInt(null) == -1;
      check(none || Modifier.isPrivate(f.getModifiers()), "visible beside the face: " + f);
      check(!Modifier.isStatic(f.getModifiers()) || Modifier.isFinal(f.getModifiers()), "a static field that is not final: " + f);
    }
    Constructor<?>[] made = PackWatch.class.getDeclaredConstructors();
    check(made.length == 1 && Modifier.isPublic(made[0].getModifiers()) && made[0].getParameterCount() == 0, "constructors");
    check(Modifier.isFinal(PackWatch.class.getModifiers()), "the class is not final");
    for (Class<?> c : PackWatch.class.getDeclaredClasses()) {
      check(!Modifier.isPublic(c.getModifiers()) && !Modifier.isProtected(c.getModifiers()), "visible: " + c);
      check(Modifier.isStatic(c.getModifiers()), "not static: " + c);
      int fields = 0;
      for (Field f : c.getDeclaredFields()) {
        if (!Modifier.isStatic(f.getModifiers())) fields++;
        else check(Modifier.isFinal(f.getModifiers()), "a static field that is not final: " + f);
      }
      check(fields <= 22, "too many fields: " + c + " " + fields);
      for (Method m : c.getDeclaredMethods()) check(!names.contains(m.getName()), "bears a public one's name: " + m);
    }
    System.out.println(wrong == 0 ? "the face is as due" : wrong + " things are not as due");
    if (wrong != 0) System.exit(1);
  }
}
