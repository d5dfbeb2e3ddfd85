import java.io.File;
import java.lang.reflect.Method;
import java.lang.reflect.Modifier;
import java.nio.file.Files;
import java.nio.file.Path;
import java.util.Set;
import java.util.TreeSet;
import java.util.regex.Matcher;
import java.util.regex.Pattern;

/** README.md: each call of the face and each test is told of, and the example's answers are the class's. */
public final class ReadmeTest {
  private static final Bench BENCH = new Bench();
  // As the document's face writes them.
  private static final String[] FACE = {
    "LayoutDesk()", "int type(long a, long b, int n)", "int space(boolean line, int n)", "int clear()",
    "int at(int i)", "int alter(int i, int v)", "int read()", "int fault()",
    "int lexeme(int i, int what)", "int token(int i)", "int count(int what)",
    "int node(int i, int what)", "int letter(int i, int k)", "int child(int i, int k)",
    "int write(int form)", "long digest()"};
  private static final Pattern CALL =
      Pattern.compile("desk\\.(\\w+)\\((.*?)\\); +// (-?\\d+).*");

  public static void main(String[] args) throws Exception {
    String readme = Files.readString(Path.of("README.md"));
    callsOfTheFace(readme);
    tests(readme);
    example(readme);
    BENCH.end();
  }

  private static void dueIn(String readme, String words) {
    BENCH.due("README.md has " + words, readme.contains(words) ? 1 : 0, 1);
  }

  private static void callsOfTheFace(String readme) {
    for (String call : FACE) {
      dueIn(readme, "| `" + call + "` |");
    }
  }

  private static void tests(String readme) {
    dueIn(readme, ".ci/run");
    File[] files = new File("src/test/java").listFiles();
    for (File file : files) {
      dueIn(readme, "`" + file.getName().replace(".java", "") + "`");
    }
  }

  /** Each line of the example is called by its name, and answers the number behind //. */
  private static void example(String readme) throws Exception {
    int from = readme.indexOf("```java");
    String[] lines = readme.substring(from, readme.indexOf("```\n", from)).split("\n");
    LayoutDesk desk = new LayoutDesk();
    Set<String> called = new TreeSet<>();
    for (int k = 2; k < lines.length; k++) {
      Matcher matcher = CALL.matcher(lines[k]);
      BENCH.due("a call with its answer: " + lines[k], matcher.matches() ? 1 : 0, 1);
      if (matcher.matches()) {
        BENCH.due(lines[k], answer(desk, matcher.group(1), matcher.group(2)), Long.parseLong(matcher.group(3)));
        called.add(matcher.group(1));
      }
    }
    BENCH.due("calls of the face in the example", called.size(), FACE.length - 1);
  }

  private static long answer(LayoutDesk desk, String name, String arguments) throws Exception {
    String[] told = arguments.isEmpty() ? new String[0] : arguments.split(", ");
    for (Method method : LayoutDesk.class.getDeclaredMethods()) {
      if (method.getName().equals(name) && Modifier.isPublic(method.getModifiers())) {
        Object[] values = new Object[told.length];
        for (int k = 0; k < told.length; k++) {
          values[k] = value(told[k], method.getParameterTypes()[k]);
        }
        return ((Number) method.invoke(desk, values)).longValue();
      }
    }
    throw new IllegalStateException("no call " + name);
  }

  private static Object value(String told, Class<?> type) {
    if (type == boolean.class) {
      return Boolean.valueOf(told);
    }
    if (type == long.class) {
      return Long.decode(told.replace("L", ""));
    }
    return Integer.decode(told);
  }
}
