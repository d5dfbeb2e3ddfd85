import java.nio.charset.StandardCharsets;

/** What the tests of the project share: due answers, and texts that are typed into a desk. */
final class Bench {
  private int wrong = 0;
  private int asked = 0;

  void due(String call, long got, long want) {
    asked++;
    if (got != want) {
      wrong++;
      System.out.println(call + " answered " + got + ", due is " + want);
    }
  }

  void dueText(String call, String got, String want) {
    asked++;
    if (!got.equals(want)) {
      wrong++;
      System.out.println(call + " answered\n" + got + "\ndue is\n" + want);
    }
  }

  /** THE TEXT is read without a FAULT, and its TOKENS are these. */
  void dueTokens(String text, String tokens) {
    LayoutDesk desk = desk(text);
    int answer = desk.read();
    due("read() of " + text, answer, desk.count(3));
    due("there is a TREE of " + text, answer > 0 ? 1 : 0, 1);
    due("fault() of " + text, desk.fault(), 0);
    dueText("TOKENS of " + text, tokens(desk), tokens);
    due("the TOKEN behind, of " + text, desk.token(desk.count(2)), LayoutDesk.NONE);
    due("the TOKEN ahead, of " + text, desk.token(-1), LayoutDesk.NONE);
  }

  /** A FAULT of section 2; THE TREE of an earlier read() and THE TEXT stay. */
  void dueFault(String text, int number, int place, String tokens) {
    LayoutDesk desk = faultyDesk(text, number, place);
    dueText("TOKENS of " + text, tokens(desk), tokens);
    due("the TOKEN behind, of " + text, desk.token(desk.count(2)), LayoutDesk.NONE);
  }

  /** A FAULT of section 1 behind so many LEXEMES; there are no TOKENS. */
  void dueLexemeFault(String text, int number, int place, int lexemes) {
    LayoutDesk desk = faultyDesk(text, number, place);
    due("count(1) of " + text, desk.count(1), lexemes);
    due("the LEXEME behind, of " + text, desk.lexeme(lexemes, 0), LayoutDesk.NONE);
    due("count(2) of " + text, desk.count(2), 0);
    due("token(0) of " + text, desk.token(0), LayoutDesk.NONE);
  }

  private LayoutDesk faultyDesk(String text, int number, int place) {
    LayoutDesk desk = desk("g = 2");
    desk.read();
    long digest = desk.digest();
    desk.clear();
    put(desk, text);
    due("read() of " + text, desk.read(), -100 - place);
    due("fault() of " + text, desk.fault(), number);
    dueText("THE TREE of before, behind " + text, tree(desk, 0), "PROGRAM(DECLARATION:g(2))");
    due("count(3) behind " + text, desk.count(3), 3);
    due("digest() behind " + text, desk.digest(), digest);
    due("count(4) behind " + text, desk.count(4), 2);
    dueText("THE TEXT stays", text(desk), text);
    return desk;
  }

  /** Ends the test: exit code 1 if an answer was not the one that is due. */
  void end() {
    System.out.println(asked + " answers, " + wrong + " not as due");
    if (wrong != 0 || asked == 0) {
      System.exit(1);
    }
  }

  static LayoutDesk desk(String text) {
    LayoutDesk desk = new LayoutDesk();
    put(desk, text);
    return desk;
  }

  static void put(LayoutDesk desk, String text) {
    byte[] bytes = text.getBytes(StandardCharsets.ISO_8859_1);
    for (int p = 0; p < bytes.length; p += 16) {
      int n = Math.min(16, bytes.length - p);
      long[] halves = new long[2];
      for (int k = 0; k < n; k++) {
        halves[k / 8] |= (bytes[p + k] & 255L) << (56 - 8 * (k % 8));
      }
      if (desk.type(halves[0], halves[1], n) < 0) {
        throw new IllegalStateException("no room for the text of a test");
      }
    }
  }

  static String text(LayoutDesk desk) {
    StringBuilder all = new StringBuilder();
    for (int i = 0; i < desk.count(0); i++) {
      all.append((char) desk.at(i));
    }
    return all.toString();
  }

  /** The TOKENS, as the document numbers them, with one blank between each two. */
  static String tokens(LayoutDesk desk) {
    StringBuilder all = new StringBuilder();
    for (int i = 0; i < desk.count(2); i++) {
      all.append(i == 0 ? "" : " ").append(desk.token(i));
    }
    return all.toString();
  }

  /** place:kind:bytes of each LEXEME. */
  static String lexemes(LayoutDesk desk) {
    StringBuilder all = new StringBuilder();
    for (int i = 0; i < desk.count(1); i++) {
      all.append(i == 0 ? "" : " ").append(desk.lexeme(i, 0)).append(':').append(desk.lexeme(i, 2));
      all.append(':').append(desk.lexeme(i, 3));
    }
    return all.toString();
  }

  /** COLUMN/OPENING/INDENT of each LEXEME, - where there is none. */
  static String columns(LayoutDesk desk) {
    StringBuilder all = new StringBuilder();
    for (int i = 0; i < desk.count(1); i++) {
      all.append(i == 0 ? "" : " ").append(desk.lexeme(i, 1));
      all.append('/').append(dash(desk.lexeme(i, 4))).append('/').append(dash(desk.lexeme(i, 5)));
    }
    return all.toString();
  }

  private static String dash(int value) {
    return value == LayoutDesk.NONE ? "-" : Integer.toString(value);
  }

  /** All that a desk tells; of a long text the bytes at both ends alone. */
  static String state(LayoutDesk desk) {
    StringBuilder all = new StringBuilder();
    for (int what = 0; what < 5; what++) {
      all.append(desk.count(what)).append(' ');
    }
    all.append("fault ").append(desk.fault()).append(" digest ").append(desk.digest());
    int bytes = desk.count(0);
    for (int i = -1; i <= bytes; i++) {
      if (i < 40 || i > bytes - 40) {
        all.append(i == -1 ? "\nbytes " : " ").append(desk.at(i));
      }
    }
    all.append("\nTOKENS ").append(tokens(desk)).append("\nLEXEMES");
    for (int i = 0; i <= desk.count(1); i++) {
      for (int what = 0; what < 6; what++) {
        all.append(what == 0 ? " | " : " ").append(desk.lexeme(i, what));
      }
    }
    all.append("\nNODES");
    for (int i = 0; i < desk.count(3); i++) {
      for (int what = 0; what < 5; what++) {
        all.append(what == 0 ? " | " : " ").append(desk.node(i, what));
      }
    }
    return all.append('\n').append(desk.count(3) > 0 ? tree(desk, 0) : "no TREE").toString();
  }

  private static final String[] KINDS = {
    "PROGRAM", "DECLARATION", "NAME", "CON", "NUMBER", "OPERATOR", "CHAIN", "APPLIED", "BRACKETS",
    "TUPLE", "LIST", "LAMBDA", "LET", "IF", "CASE", "DO", "BLOCK", "ALTERNATIVE", "TAKING",
    "LETTING"};

  /** NODE i with those in it: leaves as they are written, the others as KIND[:name](..). */
  static String tree(LayoutDesk desk, int i) {
    StringBuilder name = new StringBuilder();
    for (int k = 0; k < desk.node(i, 4); k++) {
      name.append((char) desk.letter(i, k));
    }
    int kind = desk.node(i, 0);
    if (kind == 4) {
      return Integer.toString(desk.node(i, 3));
    }
    if (kind == 2 || kind == 3 || kind == 5) {
      return kind == leafKind(name) ? name.toString() : KINDS[kind] + ':' + name;
    }
    StringBuilder all = new StringBuilder(KINDS[kind]);
    if (name.length() > 0) {
      all.append(':').append(name);
    }
    all.append('(');
    for (int k = 0; desk.child(i, k) >= 0; k++) {
      all.append(k == 0 ? "" : " ").append(tree(desk, desk.child(i, k)));
    }
    return all.append(')').toString();
  }

  /** The KIND that a leaf of that name has. */
  private static int leafKind(CharSequence name) {
    char first = name.length() == 0 ? 0 : name.charAt(0);
    if (first >= 'a' && first <= 'z' || first == '_') {
      return 2;
    }
    return first >= 'A' && first <= 'Z' ? 3 : 5;
  }
}
