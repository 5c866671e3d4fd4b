import java.lang.reflect.InvocationTargetException;
import java.lang.reflect.Method;
import java.lang.reflect.Modifier;
import java.nio.file.Files;
import java.nio.file.Path;
import java.util.List;
import java.util.regex.Matcher;
import java.util.regex.Pattern;

/** README.md says how to use the class: its lines answer what stands behind them, and no call is left out. */
public final class NobodySaidReadme {
  private static final Path README = Path.of("README.md");
  private static final String NEW_TOWN = "NobodySaid town = new NobodySaid();";
  private static final Pattern CALL = Pattern.compile("town\\.(\\w+)\\(([^)]*)\\); +// (-?\\d+)(: .+)?");
  private static final List<String> FINDINGS =
      List.of("BEYOND", "FULL", "KIND", "NONE", "STATE", "MISSING", "SIZE");
  private static int wrong = 0, run = 0;

  private static void tell(String what) {
    wrong++;
    System.out.println("README.md: " + what);
  }

  public static void main(String[] args) throws Exception {
    runLines(Files.readAllLines(README));
    namesEveryCall(Files.readString(README));
    namesEveryFinding(Files.readString(README));
    if (run == 0) tell("it has no line to run");
    System.out.println(run + " lines of README.md were run, " + wrong + " things don't hold");
    if (wrong != 0) System.exit(1);
  }

  private static void runLines(List<String> lines) throws IllegalAccessException {
    boolean inJava = false;
    NobodySaid town = null;
    for (String line : lines) {
      if (line.startsWith("```")) {
        inJava = line.equals("```java");
        town = null;
      } else if (inJava && line.equals(NEW_TOWN)) {
        town = new NobodySaid();
      } else if (inJava) {
        runLine(town, line);
      }
    }
  }

  private static void runLine(NobodySaid town, String line) throws IllegalAccessException {
    Matcher call = CALL.matcher(line);
    if (town == null || !call.matches()) {
      tell("this line can't be run: " + line);
      return;
    }
    Method method = method(call.group(1));
    Object[] values = values(call.group(2));
    if (method == null || method.getParameterCount() != values.length) {
      tell("there is no such call: " + line);
      return;
    }
    run++;
    try {
      long got = ((Number) method.invoke(town, values)).longValue();
      if (got != Long.parseLong(call.group(3))) tell("it answered " + got + ": " + line);
    } catch (InvocationTargetException e) {
      tell("it threw " + e.getCause() + ": " + line);
    }
  }

  private static Method method(String name) {
    for (Method m : NobodySaid.class.getDeclaredMethods()) {
      if (Modifier.isPublic(m.getModifiers()) && m.getName().equals(name)) return m;
    }
    return null;
  }

  private static Object[] values(String told) {
    if (told.isEmpty()) return new Object[0];
    String[] parts = told.split(", ");
    Object[] values = new Object[parts.length];
    for (int i = 0; i < parts.length; i++) values[i] = Integer.decode(parts[i]);
    return values;
  }

  /** In the lists, with as many arguments as it has. */
  private static void namesEveryCall(String readme) {
    for (Method m : NobodySaid.class.getDeclaredMethods()) {
      if (!Modifier.isPublic(m.getModifiers())) continue;
      String[] arguments = new String[m.getParameterCount()];
      java.util.Arrays.fill(arguments, "\\w+");
      String call = "`" + m.getName() + "\\(" + String.join(", ", arguments) + "\\)`";
      if (!Pattern.compile(call).matcher(readme).find()) tell("it doesn't tell of " + m.getName());
    }
  }

  private static void namesEveryFinding(String readme) {
    for (int i = 0; i < FINDINGS.size(); i++) {
      String row = "| " + (-1000001 - i) + " | " + FINDINGS.get(i) + " |";
      if (!readme.contains(row)) tell("it doesn't tell of " + FINDINGS.get(i));
    }
  }
}
