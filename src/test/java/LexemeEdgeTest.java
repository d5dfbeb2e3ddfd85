/** Section 1, sentence by sentence: the last that is taken and the first that is not. */
public final class LexemeEdgeTest {
  private static final Bench BENCH = new Bench();
  private static final String OPERATOR_BYTES = "+-*/<>=:!&|.#";
  private static final String SIGNS = "()[],;{}\\";

  public static void main(String[] args) {
    allBytes();
    mostBytes();
    lines();
    columnsBehindComments();
    namesAndCons();
    numbers();
    operators();
    signsAndWords();
    lineComments();
    nestedComments();
    sevenComments();
    lexemeLimit();
    lexemesUpToAFault();
    firstFault();
    openings();
    indents();
    BENCH.end();
  }

  private static LayoutDesk readDesk(String text) {
    LayoutDesk desk = Bench.desk(text);
    desk.read();
    return desk;
  }

  private static void dueLexemes(String text, String lexemes) {
    LayoutDesk desk = readDesk(text);
    BENCH.due("no FAULT of section 1 of " + text, desk.fault() % 4, 0);
    BENCH.dueText("LEXEMES of " + text, Bench.lexemes(desk), lexemes);
  }

  private static void dueColumns(String text, String columns) {
    BENCH.dueText("columns of " + text, Bench.columns(readDesk(text)), columns);
  }

  private static boolean isIn(int value, char from, char to) {
    return value >= from && value <= to;
  }

  /** What a byte is by itself: a kind, -1 what stands between, -2 FAULT 1. */
  private static int alone(int value) {
    if (value == 10 || value == 32) {
      return -1;
    }
    if (isIn(value, 'a', 'z') || value == '_') {
      return 0;
    }
    if (isIn(value, 'A', 'Z')) {
      return 1;
    }
    if (isIn(value, '0', '9')) {
      return 2;
    }
    if (value == '=' || SIGNS.indexOf(value) >= 0) {
      return 4;
    }
    return OPERATOR_BYTES.indexOf(value) >= 0 ? 3 : -2;
  }

  /** Whether a byte may stand in a NAME and a CON behind its first. */
  private static boolean isInName(int value) {
    return alone(value) >= 0 && alone(value) <= 2 || value == '\'';
  }

  /** Each of the 256 bytes alone, behind a NAME, a CON, a NUMBER and an OPERATOR. */
  private static void allBytes() {
    for (int value = 0; value < 256; value++) {
      String one = String.valueOf((char) value);
      int kind = alone(value);
      if (kind == -2) {
        BENCH.dueLexemeFault("a " + one + " b", 1, 2, 1);
      } else {
        dueLexemes("a " + one + " b", kind < 0 ? "0:0:1 4:0:1" : "0:0:1 2:" + kind + ":1 4:0:1");
      }
      behind("a", 0, value, isInName(value));
      behind("B", 1, value, isInName(value));
      behind("1", 2, value, kind == 2);
      behind("+", 3, value, OPERATOR_BYTES.indexOf(value) >= 0);
    }
  }

  private static void behind(String first, int kind, int value, boolean goesOn) {
    String text = first + (char) value;
    if (goesOn) {
      dueLexemes(text, "0:" + kind + ":2");
    } else if (alone(value) == -2) {
      BENCH.dueLexemeFault(text, 1, 1, 1);
    } else {
      dueLexemes(text, alone(value) < 0 ? "0:" + kind + ":1" : "0:" + kind + ":1 1:" + alone(value) + ":1");
    }
  }

  /** "THE TEXT has bytes (3000 at most)": all of them are read. */
  private static void mostBytes() {
    String blanks = " ".repeat(2995);
    LayoutDesk desk = Bench.desk("f = 1" + blanks);
    BENCH.due("read() of 3000 bytes", desk.read(), 3);
    BENCH.due("read() of 3000 bytes, the last a LEXEME", Bench.desk("f =" + blanks + " 1").read(), 3);
    BENCH.due("its place", readDesk("f =" + blanks + " 1").lexeme(2, 0), 2999);
    BENCH.due("its COLUMN", readDesk("f =" + blanks + " 1").lexeme(2, 1), 3000);
    BENCH.dueLexemeFault("f =" + blanks + " $", 1, 2999, 2);
    BENCH.dueLexemeFault("f =" + " ".repeat(2984) + "abcdefghijklm", 2, 2987, 2);
    BENCH.dueLexemeFault("f = 1 " + " ".repeat(2992) + "{-", 3, 2998, 3);
    BENCH.dueLexemeFault("{-" + "x".repeat(2998), 3, 0, 0);
    BENCH.dueFault("f =" + blanks + " (", 4, 3000, "-10 0 1 2");
    BENCH.dueFault("f = (" + blanks, 4, 3000, "-10 0 1 2");
    BENCH.due("a COMMENT of 3000 bytes", Bench.desk("{-" + "x".repeat(2996) + "-}").read(), 1);
    BENCH.due("a -- of 3000 bytes", Bench.desk("-".repeat(3000)).read(), 1);
    BENCH.due("3000 bytes 10", Bench.desk("\n".repeat(3000)).read(), 1);
  }

  /** "a byte 10 ends a line; the COLUMN of a byte is 1 more than how many are ahead of it in it". */
  private static void lines() {
    dueColumns("a", "1/1/-");
    dueColumns("\na", "1/1/-");
    dueColumns("\n\n a", "2/2/-");
    dueColumns("a b\nc\n\nd", "1/1/- 3/-/- 1/-/1 1/-/1");
    dueColumns("a\n" + " ".repeat(80) + "b", "1/1/- 81/-/81");
    LayoutDesk desk = readDesk("a\n b");
    BENCH.due("the place behind a byte 10", desk.lexeme(1, 0), 3);
  }

  /** What is ahead in the line counts, COMMENTS too; the first LEXEME in a line may be behind one. */
  private static void columnsBehindComments() {
    dueColumns("{--}a", "5/5/-");
    dueColumns("{-\n-}a", "3/3/-");
    dueColumns("{-\n{-\n-}-}a", "5/5/-");
    dueColumns("a -- b\n  c", "1/1/- 3/-/3");
    dueColumns("a\n--\nb", "1/1/- 1/-/1");
    dueColumns("a {-\n-} b", "1/1/- 4/-/4");
    dueColumns("a\n{--} b {--} c", "1/1/- 6/-/6 13/-/-");
  }

  /** "12 bytes at most"; all of them from the first on. */
  private static void namesAndCons() {
    for (String first : new String[] {"a", "z", "_", "A", "Z"}) {
      int kind = Character.isUpperCase(first.charAt(0)) ? 1 : 0;
      dueLexemes(first, "0:" + kind + ":1");
      for (String rest : new String[] {"a", "z", "A", "Z", "0", "9", "_", "'"}) {
        dueLexemes(first + rest.repeat(11), "0:" + kind + ":12");
        BENCH.dueLexemeFault(first + rest.repeat(12), 2, 0, 0);
        BENCH.dueLexemeFault("x = " + first + rest.repeat(40), 2, 4, 2);
      }
    }
    dueLexemes("abcdefghijkl+abcdefghijkl", "0:0:12 12:3:1 13:0:12");
    dueLexemes("abcdefghijkl Abcdefghijk'", "0:0:12 13:1:12");
    dueLexemes("abcdefghijkl{-m-}m", "0:0:12 17:0:1");
    BENCH.due("a NAME of 12 is told whole", readDesk("abcdefghijkl = 1").node(1, 4), 12);
  }

  /** "NUMBER: 1 to 6 figures". */
  private static void numbers() {
    dueLexemes("0", "0:2:1");
    dueLexemes("9", "0:2:1");
    dueLexemes("000000", "0:2:6");
    dueLexemes("999999", "0:2:6");
    BENCH.dueLexemeFault("0000000", 2, 0, 0);
    BENCH.dueLexemeFault("1000000", 2, 0, 0);
    BENCH.dueLexemeFault("f = 1 12345678", 2, 6, 3);
    dueLexemes("123456a", "0:2:6 6:0:1");
    dueLexemes("123456 123456", "0:2:6 7:2:6");
    BENCH.due("999999", readDesk("f = 999999").node(2, 3), 999999);
    BENCH.due("000000", readDesk("f = 000000").node(2, 3), 0);
  }

  /** "OPERATOR: bytes of + - * / < > = : ! & | . # (but not the - of {-), 3 at most". */
  private static void operators() {
    for (int k = 0; k < OPERATOR_BYTES.length(); k++) {
      String one = OPERATOR_BYTES.substring(k, k + 1);
      dueLexemes(one, one.equals("=") ? "0:4:1" : "0:3:1");
      dueLexemes("+" + one, "0:3:2");
      dueLexemes("+" + one + one, "0:3:3");
      BENCH.dueLexemeFault("+" + one + one + one, 2, 0, 0);
      BENCH.dueLexemeFault("f = 1 " + one + "+++", 2, 6, 3);
    }
    dueLexemes("+++ +++", "0:3:3 4:3:3");
    dueLexemes("a+{--}+b", "0:0:1 1:3:1 6:3:1 7:0:1");
    dueLexemes("+++{- -}", "0:3:3");
    dueLexemes("{ -", "0:4:1 2:3:1");
  }

  /** "The OPERATORS = -> <- are SIGNS, too; the NAMES let .. are WORDS": these and no others. */
  private static void signsAndWords() {
    for (String sign : new String[] {"=", "->", "<-"}) {
      dueLexemes(sign, "0:4:" + sign.length());
      dueLexemes("+" + sign, "0:3:" + (1 + sign.length()));
      dueLexemes(sign + "+", "0:3:" + (1 + sign.length()));
    }
    dueLexemes(">- -< <> >", "0:3:2 3:3:2 6:3:2 9:3:1");
    for (int k = 0; k < SIGNS.length(); k++) {
      String sign = SIGNS.substring(k, k + 1);
      dueLexemes(sign + sign + "+" + sign, "0:4:1 1:4:1 2:3:1 3:4:1");
    }
    for (String word : new String[] {"let", "in", "where", "do", "of", "case", "if", "then", "else"}) {
      int bytes = word.length();
      dueLexemes(word, "0:5:" + bytes);
      dueLexemes(word + "1", "0:0:" + (bytes + 1));
      dueLexemes(word + "'", "0:0:" + (bytes + 1));
      dueLexemes("_" + word, "0:0:" + (bytes + 1));
      dueLexemes(word + word, "0:0:" + 2 * bytes);
      dueLexemes(word.substring(0, bytes - 1), "0:0:" + (bytes - 1));
      dueLexemes(word.substring(0, 1).toUpperCase() + word.substring(1), "0:1:" + bytes);
      dueLexemes(word + "(" + word, "0:5:" + bytes + " " + bytes + ":4:1 " + (bytes + 1) + ":5:" + bytes);
      dueLexemes("1" + word, "0:2:1 1:5:" + bytes);
    }
  }

  /** "-- (two or more - that no other byte of an OPERATOR follows) up to the line's end". */
  private static void lineComments() {
    dueLexemes("- a", "0:3:1 2:0:1");
    dueLexemes("-- a", "");
    dueLexemes("--- a", "");
    dueLexemes("---- a", "");
    dueLexemes("-".repeat(50) + "a\nb", "52:0:1");
    dueLexemes("--\na", "3:0:1");
    dueLexemes("a--b\nc", "0:0:1 5:0:1");
    dueLexemes("a --", "0:0:1");
    dueLexemes("a -- b -- c\nd", "0:0:1 12:0:1");
    for (int value = 0; value < 256; value++) {
      if (value != 10 && OPERATOR_BYTES.indexOf(value) < 0) {
        dueLexemes("--" + (char) value + "$\u0000\u00ff\nb", "7:0:1");
      }
    }
    for (int k = 0; k < OPERATOR_BYTES.length(); k++) {
      char other = OPERATOR_BYTES.charAt(k);
      if (other != '-') {
        dueLexemes("--" + other + " a", "0:3:3 4:0:1");
        dueLexemes(other + "-- a", "0:3:3 4:0:1");
        BENCH.dueLexemeFault("---" + other + " a", 2, 0, 0);
      }
    }
    dueLexemes("-- {-\na", "6:0:1");
    dueLexemes("a -- -} {-\nb", "0:0:1 11:0:1");
  }

  /** "{- up to its -}, those within counted too". */
  private static void nestedComments() {
    dueLexemes("{--}", "");
    dueLexemes("{--}a", "4:0:1");
    dueLexemes("{-a-}{-b-}c", "10:0:1");
    dueLexemes("{-{--}-}a", "8:0:1");
    dueLexemes("{- -- -}a", "8:0:1");
    dueLexemes("{- \n$\u0000\u00ff'\" -}a", "12:0:1");
    dueLexemes("{-{-}-}-}a", "9:0:1");
    dueLexemes("{- - } -}a", "9:0:1");
    dueLexemes("{- { - -}a", "9:0:1");
    BENCH.dueLexemeFault("{-", 3, 0, 0);
    BENCH.dueLexemeFault("{-}", 3, 0, 0);
    BENCH.dueLexemeFault("{- -", 3, 0, 0);
    BENCH.dueLexemeFault("a {- }", 3, 2, 1);
    BENCH.dueLexemeFault("a {- {- -}", 3, 2, 1);
    BENCH.dueLexemeFault("a {--} {- {- {- -} -}", 3, 7, 1);
    BENCH.dueLexemeFault("a {-\n\n", 3, 2, 1);
    dueLexemes("a -}", "0:0:1 2:3:1 3:4:1");
  }

  private static String within(int many) {
    return "{-".repeat(many) + "x" + "-}".repeat(many);
  }

  /** "six within one another"; "the seventh within one another (the first byte of the outermost)". */
  private static void sevenComments() {
    for (int many = 1; many <= 6; many++) {
      dueLexemes(within(many) + "a", 4 * many + 1 + ":0:1");
    }
    BENCH.dueLexemeFault(within(7), 3, 0, 0);
    BENCH.dueLexemeFault(within(8), 3, 0, 0);
    BENCH.dueLexemeFault("a b\n " + within(7) + " c", 3, 5, 2);
    BENCH.dueLexemeFault(within(6) + within(7), 3, 25, 0);
    BENCH.dueLexemeFault("{-" + within(5) + within(6) + "-}", 3, 0, 0);
    dueLexemes("{-" + within(5).repeat(9) + "-}a", 4 + 9 * 21 + ":0:1");
    dueLexemes(within(6).repeat(9) + "a", 9 * 25 + ":0:1");
  }

  /** "5 the 801st LEXEME": its place; the 800th and what stands between are taken. */
  private static void lexemeLimit() {
    String most = "f=" + "a ".repeat(797) + "a";
    LayoutDesk desk = Bench.desk(most);
    BENCH.due("read() of 800 LEXEMES", desk.read(), 3 + 798);
    BENCH.due("count(1)", desk.count(1), 800);
    BENCH.due("place of the 800th", desk.lexeme(799, 0), most.length() - 1);
    BENCH.due("the 801st", desk.lexeme(800, 0), LayoutDesk.NONE);
    BENCH.due("and COMMENTS", Bench.desk(most + " -- a\n {- a -}\n").read(), 3 + 798);
    for (String last : new String[] {"a", "Abcdefghijkl", "1", "+", "->", "let", ";", "{", "}"}) {
      BENCH.dueLexemeFault(most + " \n " + last, 5, most.length() + 3, 800);
      BENCH.dueLexemeFault(most + " " + last + " $", 5, most.length() + 1, 800);
    }
    BENCH.dueLexemeFault(most + " $", 1, most.length() + 1, 800);
    BENCH.dueLexemeFault(most + " {-", 3, most.length() + 1, 800);
    // The words leave open which FAULT this is; what was done stands: FAULT 2, the first in their row.
    for (String last : new String[] {"abcdefghijklm", "Abcdefghijklm", "1234567", "++++"}) {
      BENCH.dueLexemeFault(most + " " + last, 2, most.length() + 1, 800);
    }
    BENCH.dueLexemeFault("(".repeat(801), 5, 800, 800);
    BENCH.dueLexemeFault("=".repeat(3) + " =".repeat(800), 5, 3 + 2 * 799 + 1, 800);
    BENCH.dueLexemeFault(";".repeat(3000), 5, 800, 800);
    BENCH.due("800 of ;", Bench.desk(";".repeat(800)).read(), 1);
  }

  /** "those up to a FAULT of section 1" are told as others are. */
  private static void lexemesUpToAFault() {
    for (String fault : new String[] {"$", "1234567", "abcdefghijklm", "++++", "{-", "'"}) {
      LayoutDesk desk = readDesk("foo = do\n  Bar 12\n    " + fault + " a");
      BENCH.dueText("LEXEMES ahead of " + fault, Bench.lexemes(desk), "0:0:3 4:4:1 6:5:2 11:1:3 15:2:2");
      BENCH.dueText("columns ahead of " + fault, Bench.columns(desk), "1/1/- 5/-/- 7/-/- 3/3/- 7/-/-");
    }
  }

  /** "FAULTS of this going, the first"; section 2 is not gone into then. */
  private static void firstFault() {
    BENCH.dueLexemeFault("$ 1234567 {-", 1, 0, 0);
    BENCH.dueLexemeFault("1234567 $ {-", 2, 0, 0);
    BENCH.dueLexemeFault("{- $ 1234567", 3, 0, 0);
    BENCH.dueLexemeFault("a $ $", 1, 2, 1);
    BENCH.dueLexemeFault("a ++++ 1234567", 2, 2, 1);
    BENCH.dueLexemeFault("1'", 1, 1, 1);
    BENCH.dueLexemeFault("a ' b", 1, 2, 1);
    BENCH.dueLexemeFault("1234567'", 2, 0, 0);
    BENCH.dueLexemeFault("'1234567", 1, 0, 0);
    BENCH.dueLexemeFault("abcdefghijklm$", 2, 0, 0);
    BENCH.dueLexemeFault(") } = $", 1, 6, 3);
    BENCH.dueLexemeFault("f = " + "(".repeat(40) + " 1234567", 2, 45, 42);
    BENCH.dueLexemeFault("f = " + "(".repeat(40) + " {-", 3, 45, 42);
    BENCH.dueLexemeFault("f = " + "(".repeat(40) + "$", 1, 44, 42);
  }

  /** "A LEXEME has an OPENING (its COLUMN), if it is the first of THE TEXT, or the one behind ..". */
  private static void openings() {
    for (String first : new String[] {"a", "B", "1", "+", "=", "(", ";", "}", "let", "in", "\\"}) {
      dueColumns(first, "1/1/-");
      dueColumns("\n   " + first, "4/4/-");
      for (String word : new String[] {"let", "where", "do", "of"}) {
        int behind = word.length() + 4;
        dueColumns("a " + word + " " + first, "1/1/- 3/-/- " + behind + "/" + behind + "/-");
        dueColumns("a " + word + "\n " + first, "1/1/- 3/-/- 2/2/-");
      }
      for (String word : new String[] {"in", "case", "if", "then", "else", "lets", "Do", "=", "{"}) {
        int behind = word.length() + 4;
        dueColumns("a " + word + " " + first, "1/1/- 3/-/- " + behind + "/-/-");
        dueColumns("a " + word + "\n " + first, "1/1/- 3/-/- 2/-/2");
      }
    }
    dueColumns("{", "1/-/1");
    dueColumns("  {", "3/-/3");
    dueColumns("{ a\n b", "1/-/1 3/-/- 2/-/2");
    dueColumns("a do {", "1/1/- 3/-/- 6/-/-");
    dueColumns("a do\n{ b", "1/1/- 3/-/- 1/-/1 3/-/-");
    dueColumns("a do -- c\n {--} b", "1/1/- 3/-/- 7/7/-");
    dueColumns("let where do of a", "1/1/- 5/5/- 11/11/- 14/14/- 17/17/-");
  }

  /** "Else, if it is the first in its line, it has an INDENT (its COLUMN)". */
  private static void indents() {
    dueColumns("a\nb", "1/1/- 1/-/1");
    dueColumns("a\n b c", "1/1/- 2/-/2 4/-/-");
    dueColumns("a\n\n\n   {", "1/1/- 4/-/4");
    dueColumns("a\n}\n;\n)\nin", "1/1/- 1/-/1 1/-/1 1/-/1 1/-/1");
    dueColumns("a do\nb\nc", "1/1/- 3/-/- 1/1/- 1/-/1");
  }
}
