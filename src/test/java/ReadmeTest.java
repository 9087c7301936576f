import java.io.IOException;
import java.lang.reflect.Method;
import java.lang.reflect.Modifier;
import java.nio.file.Files;
import java.nio.file.Path;
import java.util.ArrayList;
import java.util.HashMap;
import java.util.List;
import java.util.Map;
import java.util.regex.Matcher;
import java.util.regex.Pattern;

/** The calls of README.md's example answer what stands behind them; it names each call of the class. */
public final class ReadmeTest {
  private static final Pattern CALL = Pattern.compile("(?:int (\\w+) = )?sums\\.(\\w+)\\((.*?)\\); +// (-?\\d+)\\b.*");

  private static final HullSums sums = new HullSums();
  private static final Map<String, Integer> names = new HashMap<>();
  private static int wrong = 0;

  public static void main(String[] args) throws IOException, ReflectiveOperationException {
    String readme = Files.readString(Path.of("README.md"));
    List<String> example = example(readme);
    for (String line : example) runs(line);
    for (Method method : HullSums.class.getDeclaredMethods()) {
      String name = method.getName();
      boolean isNamed = readme.contains("`" + name + "`") || readme.contains("`" + name + "(");
      if (Modifier.isPublic(method.getModifiers()) && !isNamed) wrong("README.md does not name " + name);
    }
    if (example.isEmpty()) wrong("README.md has no example");
    System.out.println(example.size() + " lines of README.md, " + wrong + " are not as due");
    if (wrong != 0) System.exit(1);
  }

  /** The lines of the example, but for the first, which makes the object. */
  private static List<String> example(String readme) {
    List<String> lines = new ArrayList<>();
    boolean isIn = false;
    for (String line : readme.split("\n")) {
      if (line.startsWith("```")) isIn = line.equals("```java");
      else if (isIn && !line.contains("new HullSums()")) lines.add(line);
    }
    return lines;
  }

  private static void runs(String line) throws ReflectiveOperationException {
    Matcher parts = CALL.matcher(line);
    if (!parts.matches()) {
      wrong("no call with its answer: " + line);
      return;
    }
    long got = answer(parts.group(2), parts.group(3));
    if (parts.group(1) != null) names.put(parts.group(1), (int) got);
    if (got != Long.parseLong(parts.group(4))) wrong(line + ": answered " + got);
  }

  private static long answer(String name, String with) throws ReflectiveOperationException {
    String[] words = with.isEmpty() ? new String[0] : with.split(", ");
    Object[] numbers = new Object[words.length];
    Class<?>[] types = new Class<?>[words.length];
    for (int i = 0; i < words.length; i++) {
      Integer named = names.get(words[i]);
      numbers[i] = named != null ? named : Integer.valueOf(words[i]);
      types[i] = int.class;
    }
    return ((Number) HullSums.class.getMethod(name, types).invoke(sums, numbers)).longValue();
  }

  private static void wrong(String what) {
    wrong++;
    System.out.println(what);
  }
}
