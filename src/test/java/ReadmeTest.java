import java.io.IOException;
import java.lang.reflect.InvocationTargetException;
import java.lang.reflect.Method;
import java.nio.file.Files;
import java.nio.file.Path;
import java.util.ArrayList;
import java.util.List;
import java.util.regex.Matcher;
import java.util.regex.Pattern;

/** The calls in README.md answer what stands behind them. Runs in the directory of README.md. */
public final class ReadmeTest {
  private static final Pattern CALL = Pattern.compile("house\\.(\\w+)\\(([^)]*)\\);\\s*// ([^:]+): .*");

  private static final Checks CHECKS = new Checks();

  public static void main(String[] args) throws IOException, IllegalAccessException {
    RentHarmony house = new RentHarmony();
    for (String line : example()) {
      Matcher call = CALL.matcher(line);
      CHECKS.due("a call and its answer: " + line, true, call.matches());
      if (call.matches()) {
        CHECKS.due(line, call.group(3), answer(house, call.group(1), numbers(call.group(2))));
      }
    }
    CHECKS.end();
  }

  // The lines of the one piece of Java, without the first, which makes the house.
  private static List<String> example() throws IOException {
    List<String> lines = new ArrayList<>();
    boolean inside = false;
    for (String line : Files.readAllLines(Path.of("README.md"))) {
      if (line.startsWith("```")) {
        inside = line.equals("```java");
      } else if (inside) {
        lines.add(line);
      }
    }
    CHECKS.due("the first line", "RentHarmony house = new RentHarmony();", lines.isEmpty() ? "" : lines.remove(0));
    return lines;
  }

  private static Object[] numbers(String text) {
    if (text.isEmpty()) {
      return new Object[0];
    }
    String[] parts = text.split(", ");
    Object[] numbers = new Object[parts.length];
    for (int k = 0; k < parts.length; k++) {
      numbers[k] = Integer.valueOf(parts[k]);
    }
    return numbers;
  }

  private static String answer(RentHarmony house, String name, Object[] numbers) throws IllegalAccessException {
    for (Method method : RentHarmony.class.getMethods()) {
      if (method.getName().equals(name) && method.getParameterCount() == numbers.length) {
        try {
          return String.valueOf(method.invoke(house, numbers));
        } catch (InvocationTargetException e) {
          return "throws " + e.getCause().getClass().getSimpleName();
        }
      }
    }
    return "no such call";
  }
}
