import java.io.IOException;
import java.lang.reflect.Method;
import java.lang.reflect.Modifier;
import java.nio.file.Files;
import java.nio.file.Path;
import java.util.ArrayList;
import java.util.List;
import java.util.regex.Matcher;
import java.util.regex.Pattern;

/** The example of README.md: each of its calls is made in its order and answers what stands behind it. */
public final class ReadmeHolds extends Checks {
  private static final String START = "StyleFixes desk = new StyleFixes();";
  private static final Pattern CALL = Pattern.compile("desk\\.(\\w+)\\(([^)]*)\\);\\s*// (true|false|-?\\d+)(?![\\w.]).*");

  public static void main(String[] args) throws IOException, ReflectiveOperationException {
    part = "README.md";
    String page = Files.readString(Path.of("README.md"));
    due(page.split("```java\n", -1).length, 2, "pieces of the page, cut at its one example");
    int from = page.indexOf("```java\n") + "```java\n".length();
    runExample(page.substring(from, page.indexOf("```", from)));
    for (Method m : StyleFixes.class.getDeclaredMethods()) {
      if (Modifier.isPublic(m.getModifiers())) due(page.matches("(?s).*[`.]" + m.getName() + "[`(].*"), true, "a word on " + m.getName());
    }
    ended("README.md holds");
  }

  private static void runExample(String example) throws ReflectiveOperationException {
    StyleFixes desk = new StyleFixes();
    List<String> lines = new ArrayList<>(List.of(example.split("\n")));
    due(lines.remove(0), START, "the example's first line");
    int calls = 0;
    for (String line : lines) {
      if (line.isBlank()) continue;
      Matcher m = CALL.matcher(line);
      due(m.matches(), true, "a call with its answer: " + line);
      if (!m.matches()) continue;
      due(String.valueOf(call(desk, m.group(1), m.group(2))), m.group(3), line);
      calls++;
    }
    due(calls > 20, true, "more than 20 calls");
  }

  private static Object call(StyleFixes desk, String name, String told) throws ReflectiveOperationException {
    for (Method m : StyleFixes.class.getDeclaredMethods()) {
      if (!m.getName().equals(name) || !Modifier.isPublic(m.getModifiers())) continue;
      Class<?>[] types = m.getParameterTypes();
      String[] words = told.isEmpty() ? new String[0] : told.split(", ");
      if (words.length != types.length) return "(another number of arguments)";
      Object[] values = new Object[types.length];
      for (int i = 0; i < types.length; i++) {
        values[i] = types[i] == boolean.class ? (Object) Boolean.valueOf(words[i]) : (Object) Integer.decode(words[i]);
      }
      return m.invoke(desk, values);
    }
    return "(no such call)";
  }
}
