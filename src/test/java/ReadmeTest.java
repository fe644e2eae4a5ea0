import java.io.IOException;
import java.lang.reflect.Method;
import java.lang.reflect.Modifier;
import java.nio.file.Files;
import java.nio.file.Path;
import java.util.HashMap;
import java.util.HashSet;
import java.util.List;
import java.util.Map;
import java.util.Set;
import java.util.regex.Matcher;
import java.util.regex.Pattern;
import java.util.stream.Stream;

/** What README.md says of the use of the class and of its tests is so: its calls are made and must answer as it shows. */
public final class ReadmeTest {
  private static final Pattern CALL = Pattern.compile("x\\.(\\w+)\\(([^)]*)\\);\\s*// (-?\\d+)\\b.*");
  private static final Pattern TELL = Pattern.compile("tell\\(x, \"([^\"]*)\"\\);");
  private static final Pattern NEW = Pattern.compile("RungHouse x = new RungHouse\\(\\);");
  private static final Pattern NAMED_TEST = Pattern.compile("`(\\w+Test)`");

  private static final Check c = new Check();
  private static final Map<String, Method> methods = new HashMap<>();
  private static final Set<String> shown = new HashSet<>();
  private static RungHouse x = null;

  public static void main(String[] args) throws Exception {
    for (Method m : RungHouse.class.getDeclaredMethods()) {
      if (Modifier.isPublic(m.getModifiers())) methods.put(m.getName(), m);
    }
    List<String> readme = Files.readAllLines(Path.of("README.md"));
    boolean isCode = false;
    for (String line : readme) {
      if (line.startsWith("```")) isCode = line.equals("```java");
      else if (isCode && !line.isBlank()) follow(line);
    }
    for (String name : methods.keySet()) c.due("README.md shows a call of " + name, shown.contains(name) ? 1 : 0, 1);
    constants(String.join("\n", readme));
    tests(String.join("\n", readme));
    c.close("ReadmeTest");
  }

  private static void follow(String line) throws Exception {
    Matcher call = CALL.matcher(line), tell = TELL.matcher(line);
    if (NEW.matcher(line).matches()) {
      x = new RungHouse();
    } else if (tell.matches()) {
      Check.tell(x, tell.group(1));
    } else if (call.matches() && methods.containsKey(call.group(1))) {
      shown.add(call.group(1));
      c.due(line, answer(methods.get(call.group(1)), call.group(2)), Long.parseLong(call.group(3)));
    } else {
      c.due("README.md has a line of code that is no call with its answer: " + line, 0, 1);
    }
  }

  private static int answer(Method method, String told) throws Exception {
    String[] parts = told.isBlank() ? new String[0] : told.split(",\\s*");
    Class<?>[] types = method.getParameterTypes();
    if (parts.length != types.length) throw new IllegalStateException("README.md: " + method.getName() + "(" + told + ")");
    Object[] values = new Object[parts.length];
    for (int i = 0; i < parts.length; i++) values[i] = value(parts[i], types[i]);
    return (Integer) method.invoke(x, values);
  }

  private static Object value(String part, Class<?> type) {
    if (type == boolean.class) return Boolean.valueOf(part);
    if (type == long.class) return Long.decode(part.replace("L", ""));
    return part.equals("RungHouse.NONE") ? Integer.valueOf(RungHouse.NONE) : Integer.valueOf(part);
  }

  private static void constants(String readme) {
    int[] values = {RungHouse.UNKNOWN, RungHouse.OUTSIDE, RungHouse.NOT, RungHouse.FULL};
    String[] names = {"UNKNOWN", "OUTSIDE", "NOT", "FULL"};
    for (int i = 0; i < names.length; i++) {
      String shownAs = "`" + names[i] + "` (" + values[i] + ")";
      c.due("README.md says " + shownAs, readme.contains(shownAs) ? 1 : 0, 1);
    }
  }

  private static void tests(String readme) throws IOException {
    Set<String> named = new HashSet<>(), there = new HashSet<>();
    for (Matcher m = NAMED_TEST.matcher(readme); m.find();) named.add(m.group(1));
    try (Stream<Path> files = Files.list(Path.of("src", "test", "java"))) {
      files.map(f -> f.getFileName().toString().replace(".java", "")).filter(f -> f.endsWith("Test")).forEach(there::add);
    }
    c.due("tests " + there + " are those that README.md names: " + named, named.equals(there) ? 1 : 0, 1);
    c.due("README.md tells of .ci/run", readme.contains("\nbash .ci/run\n") ? 1 : 0, 1);
    c.due(".ci/run can be run", Files.isExecutable(Path.of(".ci", "run")) ? 1 : 0, 1);
  }
}
