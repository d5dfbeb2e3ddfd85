import java.nio.charset.StandardCharsets;

/** What the tests of the project share: due answers, and texts that are typed into a desk. */
final class Bench {
  private int wrong = 0;
  private int asked = 0;

  void due(String call, long got, long want) {
    asked++;
    if (got != want) {
      wrong++;
      System.out.println(call + " answered " + got + ", due is " + want);
    }
  }

  void dueText(String call, String got, String want) {
    asked++;
    if (!got.equals(want)) {
      wrong++;
      System.out.println(call + " answered\n" + got + "\ndue is\n" + want);
    }
  }

  /** Ends the test: exit code 1 if an answer was not the one that is due. */
  void end() {
    System.out.println(asked + " answers, " + wrong + " not as due");
    if (wrong != 0 || asked == 0) {
      System.exit(1);
    }
  }

  static LayoutDesk desk(String text) {
    LayoutDesk desk = new LayoutDesk();
    put(desk, text);
    return desk;
  }

  static void put(LayoutDesk desk, String text) {
    byte[] bytes = text.getBytes(StandardCharsets.ISO_8859_1);
    for (int p = 0; p < bytes.length; p += 16) {
      int n = Math.min(16, bytes.length - p);
      long[] halves = new long[2];
      for (int k = 0; k < n; k++) {
        halves[k / 8] |= (bytes[p + k] & 255L) << (56 - 8 * (k % 8));
      }
      if (desk.type(halves[0], halves[1], n) < 0) {
        throw new IllegalStateException("no room for the text of a test");
      }
    }
  }

  static String text(LayoutDesk desk) {
    StringBuilder all = new StringBuilder();
    for (int i = 0; i < desk.count(0); i++) {
      all.append((char) desk.at(i));
    }
    return all.toString();
  }

  /** The TOKENS, as the document numbers them, with one blank between each two. */
  static String tokens(LayoutDesk desk) {
    StringBuilder all = new StringBuilder();
    for (int i = 0; i < desk.count(2); i++) {
      all.append(i == 0 ? "" : " ").append(desk.token(i));
    }
    return all.toString();
  }

  private static final String[] KINDS = {
    "PROGRAM", "DECLARATION", "NAME", "CON", "NUMBER", "OPERATOR", "CHAIN", "APPLIED", "BRACKETS",
    "TUPLE", "LIST", "LAMBDA", "LET", "IF", "CASE", "DO", "BLOCK", "ALTERNATIVE", "TAKING",
    "LETTING"};

  /** NODE i with those in it: leaves as they are written, the others as KIND[:name](..). */
  static String tree(LayoutDesk desk, int i) {
    StringBuilder name = new StringBuilder();
    for (int k = 0; k < desk.node(i, 4); k++) {
      name.append((char) desk.letter(i, k));
    }
    int kind = desk.node(i, 0);
    if (kind == 4) {
      return Integer.toString(desk.node(i, 3));
    }
    if (kind == 2 || kind == 3 || kind == 5) {
      return name.toString();
    }
    StringBuilder all = new StringBuilder(KINDS[kind]);
    if (name.length() > 0) {
      all.append(':').append(name);
    }
    all.append('(');
    for (int k = 0; desk.child(i, k) >= 0; k++) {
      all.append(k == 0 ? "" : " ").append(tree(desk, desk.child(i, k)));
    }
    return all.append(')').toString();
  }
}
