import java.io.IOException;
import java.lang.reflect.Method;
import java.nio.file.Files;
import java.nio.file.Path;
import java.util.ArrayList;
import java.util.List;

/**
 * Tests of boundary sentences: each is a method named by its promise (promise07_..), tells by says(..)
 * the words of the document that it holds the class to, and is found by its name.
 */
abstract class Edges extends Checks {
  private static final Path DOCUMENT = Path.of("../shared/DOC.md");
  private static String document = null;
  private static boolean told = false;

  static void says(String words) {
    told = true;
    if (document != null && !document.contains(words)) { wrong++; System.out.println(part + ": the document does not say: " + words); }
  }

  static void run(Class<?> tests, int first, int last) {
    document = read(DOCUMENT);
    List<String> names = new ArrayList<>();
    for (Method m : tests.getDeclaredMethods()) if (m.getName().matches("promise\\d\\d_.*")) names.add(m.getName());
    names.sort(null);
    for (String name : names) runOne(tests, name);
    for (int p = first; p <= last; p++) {
      String start = String.format("promise%02d_", p);
      due(names.stream().anyMatch(n -> n.startsWith(start)), true, "a test named " + start);
    }
    ended(names.size() + " tests of boundary sentences pass");
  }

  private static void runOne(Class<?> tests, String name) {
    part = name;
    told = false;
    try {
      tests.getDeclaredMethod(name).invoke(null);
    } catch (ReflectiveOperationException e) {
      wrong++;
      System.out.println(name + " ended with " + (e.getCause() == null ? e : e.getCause()));
    }
    due(told, true, "the words of the document");
  }

  /** A checkout without the document has no words to compare with; the answers are due all the same. */
  private static String read(Path file) {
    try {
      return Files.readString(file);
    } catch (IOException e) {
      return null;
    }
  }
}
