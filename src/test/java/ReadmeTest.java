import java.io.IOException;
import java.lang.reflect.Method;
import java.lang.reflect.Modifier;
import java.nio.file.Files;
import java.nio.file.Path;
import java.util.Set;
import java.util.TreeSet;
import java.util.regex.Matcher;
import java.util.regex.Pattern;

/** README.md shows every call of the face, and each call in it answers what stands behind it. */
public final class ReadmeTest {
  private static final String MADE = "FountainTalk city = new FountainTalk();";
  private static final Pattern CALL = Pattern.compile("city\\.(\\w+)\\((.*?)\\); +// (-?\\d+)(: .*)?");

  public static void main(String[] args) throws ReflectiveOperationException, IOException {
    Checks.topic("README.md");
    Set<String> shown = new TreeSet<>();
    FountainTalk city = null;
    boolean code = false;
    int calls = 0;
    for (String line : Files.readAllLines(Path.of("README.md"))) {
      if (line.startsWith("```")) {
        code = line.equals("```java");
      } else if (code && line.equals(MADE)) {
        city = new FountainTalk();
        calls = 0;
      } else if (code) {
        Matcher call = CALL.matcher(line);
        Checks.isTrue("a call and its answer: " + line, call.matches());
        if (!call.matches()) continue;
        shown.add(call.group(1));
        calls++;
        Checks.due(line, answer(city, call.group(1), call.group(2)), Long.parseLong(call.group(3)));
        Checks.isTrue("at most 512 calls on an object", calls <= 512);
      }
    }
    for (Method m : FountainTalk.class.getDeclaredMethods()) {
      if (Modifier.isPublic(m.getModifiers())) Checks.isTrue("shows " + m.getName(), shown.contains(m.getName()));
    }
    Checks.end();
  }

  private static long answer(FountainTalk city, String name, String list) throws ReflectiveOperationException {
    String[] given = list.isEmpty() ? new String[0] : list.split(", ");
    for (Method m : FountainTalk.class.getDeclaredMethods()) {
      if (!m.getName().equals(name) || m.getParameterCount() != given.length) continue;
      Object[] values = new Object[given.length];
      for (int i = 0; i < given.length; i++) {
        long v = Long.decode(given[i].replace("L", ""));
        values[i] = m.getParameterTypes()[i] == long.class ? (Object) v : (Object) (int) v;
      }
      return ((Number) m.invoke(city, values)).longValue();
    }
    throw new NoSuchMethodException(name + "(" + list + ")");
  }
}
