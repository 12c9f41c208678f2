import java.lang.reflect.Method;
import java.nio.charset.StandardCharsets;
import java.nio.file.Files;
import java.nio.file.Path;
import java.util.ArrayList;
import java.util.List;
import java.util.regex.Matcher;
import java.util.regex.Pattern;

/** The example in README.md answers what stands behind its calls: "pack.CALL(NUMBERS);  // ANSWER: what it is". */
public final class ReadmeTest {
  static final Pattern CALL = Pattern.compile("pack\\.(\\w+)\\(([^)]*)\\); +// (-?\\d+|true|false): .+");
  static final int CALLS_LEAST = 10;

  static int wrong = 0;
  static void check(boolean fits, String what) {
    if (!fits) { wrong++; System.out.println("README.md: " + what); }
  }

  static List<String> example() throws Exception {
    List<String> lines = new ArrayList<>();
    boolean within = false;
    for (String line : Files.readAllLines(Path.of("README.md"), StandardCharsets.UTF_8)) {
      if (line.startsWith("```")) within = line.equals("```java");
      else if (within && !line.isBlank()) lines.add(line);
    }
    return lines;
  }

  static String answer(PackWatch pack, String name, String numbers) throws Exception {
    String[] told = numbers.isBlank() ? new String[0] : numbers.split(", *");
    for (Method m : PackWatch.class.getMethods()) {
      if (!m.getName().equals(name) || m.getParameterCount() != told.length) continue;
      if (m.getDeclaringClass() != PackWatch.class) continue;
      Object[] args = new Object[told.length];
      for (int i = 0; i < told.length; i++)
        args[i] = m.getParameterTypes()[i] == boolean.class ? (Object) Boolean.valueOf(told[i]) : (Object) Integer.valueOf(told[i]);
      return String.valueOf(m.invoke(pack, args));
    }
    return "no such call";
  }

  public static void main(String[] args) throws Exception {
    List<String> lines = example();
    check(!lines.isEmpty() && lines.get(0).equals("PackWatch pack = new PackWatch();"), "the example makes no pack");
    PackWatch pack = new PackWatch();
    int calls = 0;
    for (int i = 1; i < lines.size(); i++) {
      Matcher call = CALL.matcher(lines.get(i));
      boolean fits = call.matches();
      check(fits, "no call with its answer: " + lines.get(i));
      if (!fits) continue;
      calls++;
      String got = answer(pack, call.group(1), call.group(2));
      check(got.equals(call.group(3)), lines.get(i) + " answered " + got);
    }
    check(calls >= CALLS_LEAST, "calls with answers: " + calls);
    System.out.println(wrong == 0 ? "the example's " + calls + " answers are as due" : wrong + " lines are not as due");
    if (wrong != 0) System.exit(1);
  }
}
