import java.lang.reflect.Constructor;
import java.lang.reflect.Field;
import java.lang.reflect.Method;
import java.lang.reflect.Modifier;
import java.nio.file.Files;
import java.nio.file.Path;
import java.util.Arrays;
import java.util.Set;
import java.util.TreeSet;
import java.util.regex.Matcher;
import java.util.regex.Pattern;

/** The public face, and the rules of LANGUAGE.md as far as they show without a compiler. */
public final class LanguageTest {
  private static final Bench BENCH = new Bench();

  private static final String[] FACE = {
    "int type(long, long, int)", "int space(boolean, int)", "int clear()", "int at(int)",
    "int alter(int, int)", "int read()", "int fault()", "int lexeme(int, int)", "int token(int)",
    "int count(int)", "int node(int, int)", "int letter(int, int)", "int child(int, int)",
    "int write(int)", "long digest()"};

  private static final String[] RULED_OUT = {
    "\\b(throw|throws|try|catch|synchronized|assert|import|package|volatile|native|this)\\b", "->", "::",
    "\\b(equals|hashCode|toString|float|double|Object|Integer|System\\.(?!arraycopy))\\b",
    "static *\\{", "@", "\\[\\] *\\[\\]", "\\bExact\\b"};

  public static void main(String[] args) throws Exception {
    face();
    constants();
    classesInside();
    source();
    room();
    BENCH.end();
  }

  private static String told(Method method) {
    StringBuilder all = new StringBuilder(method.getReturnType().getName());
    all.append(' ').append(method.getName()).append('(');
    String between = "";
    for (Class<?> type : method.getParameterTypes()) {
      all.append(between).append(type.getName());
      between = ", ";
    }
    return all.append(')').toString();
  }

  private static void face() {
    Set<String> open = new TreeSet<>();
    for (Method method : LayoutDesk.class.getDeclaredMethods()) {
      if (!Modifier.isPrivate(method.getModifiers())) {
        BENCH.due(method + " is public", Modifier.isPublic(method.getModifiers()) ? 1 : 0, 1);
        open.add(told(method));
      }
    }
    BENCH.dueText("the methods", open.toString(), new TreeSet<>(Arrays.asList(FACE)).toString());
    Constructor<?>[] constructors = LayoutDesk.class.getDeclaredConstructors();
    BENCH.due("constructors", constructors.length, 1);
    BENCH.due("arguments of the constructor", constructors[0].getParameterCount(), 0);
    BENCH.due("modifiers of the constructor", constructors[0].getModifiers(), Modifier.PUBLIC);
    BENCH.due("modifiers of the class", LayoutDesk.class.getModifiers(), Modifier.PUBLIC | Modifier.FINAL);
    for (Field field : LayoutDesk.class.getDeclaredFields()) {
      boolean constant = field.getName().matches("NONE|BAD|FULL|NOT");
      BENCH.due(field + " is private", Modifier.isPrivate(field.getModifiers()) ? 1 : 0, constant ? 0 : 1);
    }
  }

  private static void constants() {
    BENCH.due("NONE", LayoutDesk.NONE, -1);
    BENCH.due("BAD", LayoutDesk.BAD, -2);
    BENCH.due("FULL", LayoutDesk.FULL, -3);
    BENCH.due("NOT", LayoutDesk.NOT, -4);
  }

  private static void classesInside() {
    Set<String> names = new TreeSet<>();
    for (String method : FACE) {
      names.add(method.substring(method.indexOf(' ') + 1, method.indexOf('(')));
    }
    Class<?>[] inside = LayoutDesk.class.getDeclaredClasses();
    BENCH.due("not more than twelve classes", inside.length < 12 ? 1 : 0, 1);
    for (Class<?> one : inside) {
      BENCH.due(one + " is static", Modifier.isStatic(one.getModifiers()) ? 1 : 0, 1);
      int fields = 0;
      for (Field field : one.getDeclaredFields()) {
        boolean fixed = Modifier.isStatic(field.getModifiers());
        fields += fixed ? 0 : 1;
        BENCH.due(field + " is final", fixed && !Modifier.isFinal(field.getModifiers()) ? 1 : 0, 0);
      }
      BENCH.due(one + " has at most twenty fields", fields <= 20 ? 1 : 0, 1);
      for (Method method : one.getDeclaredMethods()) {
        BENCH.due(method + " has the name of a public one", names.contains(method.getName()) ? 1 : 0, 0);
        BENCH.due(method + " takes at most seven", method.getParameterCount() <= 7 ? 1 : 0, 1);
      }
    }
  }

  private static void source() throws Exception {
    String all = Files.readString(Path.of("src/main/java/LayoutDesk.java"));
    for (int k = 0; k < all.length(); k++) {
      BENCH.due("a byte above 126 in the source", all.charAt(k) > 126 ? 1 : 0, 0);
    }
    String code = all.replaceAll("'(\\\\.|[^'\\\\])'", "' '").replaceAll("\"(\\\\.|[^\"\\\\])*\"", "\"\"")
        .replaceAll("(?s)/\\*.*?\\*/", "").replaceAll("//[^\\n]*", "");
    for (String out : RULED_OUT) {
      Matcher matcher = Pattern.compile(out).matcher(code);
      BENCH.dueText("what is ruled out by " + out, matcher.find() ? matcher.group() : "", "");
    }
    int start = 0;
    String[] lines = code.split("\n");
    for (int k = 0; k < lines.length; k++) {
      if (lines[k].matches(" {4}( {4})?\\S.*\\) \\{")) {
        start = k;
      } else if (lines[k].matches(" {4}( {4})?\\}")) {
        BENCH.due("lines of the method at " + (start + 1) + " above sixty", k - start > 60 && start > 0 ? 1 : 0, 0);
        start = k;
      }
    }
  }

  /** What a new object holds, and that no call makes more rows. */
  private static void room() throws Exception {
    LayoutDesk x = Bench.desk("f = do\n a\n b");
    Set<Object> before = java.util.Collections.newSetFromMap(new java.util.IdentityHashMap<>());
    long elements = held(x, before);
    System.out.println(before.size() + " objects with " + elements + " fields and elements");
    BENCH.due("at most 60000 fields and elements", elements <= 60000 ? 1 : 0, 1);
    for (int k = 0; k < 30; k++) {
      x.read();
      x.write(k % 2);
      x.digest();
    }
    Set<Object> behind = java.util.Collections.newSetFromMap(new java.util.IdentityHashMap<>());
    held(x, behind);
    BENCH.due("the same objects as before", behind.equals(before) ? 1 : 0, 1);
  }

  private static long held(Object object, Set<Object> seen) throws Exception {
    if (object == null || !seen.add(object)) {
      return 0;
    }
    if (object.getClass().isArray()) {
      return java.lang.reflect.Array.getLength(object);
    }
    long all = 0;
    for (Field field : object.getClass().getDeclaredFields()) {
      if (!Modifier.isStatic(field.getModifiers())) {
        field.setAccessible(true);
        all++;
        if (!field.getType().isPrimitive()) {
          all += held(field.get(object), seen);
        }
      }
    }
    return all;
  }
}
