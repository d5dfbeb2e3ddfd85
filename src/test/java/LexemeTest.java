/** Section 1 with promise 9: LEXEMES, COMMENTS, COLUMNS, OPENINGS, INDENTS; FAULTS 1, 2, 3, 5. */
public final class LexemeTest {
  private static final Bench BENCH = new Bench();

  public static void main(String[] args) {
    kinds();
    columns();
    comments();
    openings();
    badByte();
    tooLong();
    commentFaults();
    tooMany();
    wrongInputs();
    BENCH.end();
  }

  private static void dueLexemes(String text, String want) {
    LayoutDesk x = Bench.desk(text);
    x.read();
    BENCH.dueText("LEXEMES of " + text, Bench.lexemes(x), want);
  }

  private static void kinds() {
    dueLexemes("a_B'9 _ Ab'_1 012345", "0:0:5 6:0:1 8:1:5 14:2:6");
    dueLexemes("+ -*/ <>= :!& |.#", "0:3:1 2:3:3 6:3:3 10:3:3 14:3:3");
    dueLexemes("= -> <- == >- <-- =- <", "0:4:1 2:4:2 5:4:2 8:3:2 11:3:2 14:3:3 18:3:2 21:3:1");
    dueLexemes("()[],;{}\\", "0:4:1 1:4:1 2:4:1 3:4:1 4:4:1 5:4:1 6:4:1 7:4:1 8:4:1");
    dueLexemes("let in where do of case if then else",
        "0:5:3 4:5:2 7:5:5 13:5:2 16:5:2 19:5:4 24:5:2 27:5:4 32:5:4");
    dueLexemes("lets In let' _do", "0:0:4 5:1:2 8:0:4 13:0:3");
    dueLexemes("12ab3C", "0:2:2 2:0:4");
    dueLexemes("a+b=c->d", "0:0:1 1:3:1 2:0:1 3:4:1 4:0:1 5:4:2 7:0:1");
    dueLexemes("(-1)", "0:4:1 1:3:1 2:2:1 3:4:1");
    dueLexemes("abcdefghijkl Abcdefghijkl", "0:0:12 13:1:12");
  }

  private static void columns() {
    LayoutDesk x = Bench.desk("  f =\n a\nb  c\n\n   d");
    x.read();
    BENCH.dueText("columns", Bench.columns(x), "3/3/- 5/-/- 2/-/2 1/-/1 4/-/- 4/-/4");
  }

  private static void comments() {
    dueLexemes("a -- b\nc", "0:0:1 7:0:1");
    dueLexemes("a --- b", "0:0:1");
    dueLexemes("a ------b\nc", "0:0:1 10:0:1");
    dueLexemes("a --", "0:0:1");
    dueLexemes("a --> b", "0:0:1 2:3:3 6:0:1");
    dueLexemes("a |-- b", "0:0:1 2:3:3 6:0:1");
    dueLexemes("a --{- b\nc", "0:0:1 9:0:1");
    dueLexemes("a --'\"\n", "0:0:1");
    dueLexemes("a{-b-}c", "0:0:1 6:0:1");
    dueLexemes("a{--}c", "0:0:1 5:0:1");
    dueLexemes("a{-}-}c", "0:0:1 6:0:1");
    dueLexemes("a{---}c", "0:0:1 6:0:1");
    dueLexemes("a {- {- -} b -} c", "0:0:1 16:0:1");
    dueLexemes("a {- -- -} c", "0:0:1 11:0:1");
    dueLexemes("{-{-{-{-{-{-\u00ff'-}-}-}-}-}-}a", "26:0:1");
    dueLexemes("{-{--}{--}{--}{--}{--}{--}{--}-}a", "32:0:1");
    dueLexemes("+{-x-}+", "0:3:1 6:3:1");
    LayoutDesk x = Bench.desk("a {- \n -} b {-\n\n-}c\n{--} d");
    x.read();
    BENCH.dueText("behind comments", Bench.columns(x), "1/1/- 5/-/5 3/-/3 6/-/6");
  }

  private static void openings() {
    LayoutDesk x = Bench.desk("{ f = do\n  {a;b} }");
    x.read();
    BENCH.dueText("{ has no OPENING", Bench.columns(x),
        "1/-/1 3/-/- 5/-/- 7/-/- 3/-/3 4/-/- 5/-/- 6/-/- 7/-/- 9/-/-");
    LayoutDesk y = Bench.desk("f = do\na where\n let x of 1");
    y.read();
    BENCH.dueText("behind the words", Bench.columns(y),
        "1/1/- 3/-/- 5/-/- 1/1/- 3/-/- 2/2/- 6/6/- 8/-/- 11/11/-");
    LayoutDesk z = Bench.desk("do do in then\n else");
    z.read();
    BENCH.dueText("first and behind words", Bench.columns(z), "1/1/- 4/4/- 7/7/- 10/-/- 2/-/2");
  }

  private static void dueFault(String text, int number, int place, int lexemes) {
    BENCH.dueLexemeFault(text, number, place, lexemes);
  }

  private static void badByte() {
    dueFault("f = $", 1, 4, 2);
    dueFault("f = 'a", 1, 4, 2);
    dueFault("f = 1'", 1, 5, 3);
    dueFault("f = +'", 1, 5, 3);
    dueFault("f\t= 1", 1, 1, 1);
    dueFault("f = 1\r\n", 1, 5, 3);
    dueFault("\u0000", 1, 0, 0);
    dueFault("f = \u00ff", 1, 4, 2);
    dueFault("f = \u00e4", 1, 4, 2);
    String nowhere = "\"$%?@^`~'";
    for (int k = 0; k < nowhere.length(); k++) {
      dueFault("a " + nowhere.charAt(k) + " b", 1, 2, 1);
    }
    dueFault("= = = @", 1, 6, 3);
  }

  private static void tooLong() {
    dueFault("f = abcdefghijklm", 2, 4, 2);
    dueFault("f = Abcdefghijklm", 2, 4, 2);
    dueFault("f = 1234567", 2, 4, 2);
    dueFault("f = ++++", 2, 4, 2);
    dueFault("f = --->", 2, 4, 2);
    dueFault("f = +---", 2, 4, 2);
    dueFault("f = abcdefghijklm'\" $", 2, 4, 2);
  }

  private static void commentFaults() {
    dueFault("f = {- a", 3, 4, 2);
    dueFault("f = {-", 3, 4, 2);
    dueFault("f = {-}", 3, 4, 2);
    dueFault("f {- \n {- -} -", 3, 2, 1);
    dueFault("f {-{-{-{-{-{-{- -}-}-}-}-}-}-} $", 3, 2, 1);
    dueFault("{- {- -} {-{-{-{-{-{--}-}-}-}-}-}-}", 3, 0, 0);
  }

  private static void tooMany() {
    StringBuilder text = new StringBuilder("f =");
    for (int k = 2; k < 800; k++) {
      text.append(" a");
    }
    LayoutDesk x = Bench.desk(text.toString());
    // PROGRAM, DECLARATION, APPLIED, and the 798 NAMES in it.
    BENCH.due("read() of 800 LEXEMES", x.read(), 801);
    BENCH.due("count(1)", x.count(1), 800);
    BENCH.due("count(2)", x.count(2), 802);
    dueFault(text + " a", 5, text.length() + 1, 800);
    dueFault(text + "\n(", 5, text.length() + 1, 800);
    dueFault(text + " -- a\n $", 1, text.length() + 7, 800);
  }

  private static void wrongInputs() {
    LayoutDesk x = Bench.desk("f = 1");
    x.read();
    BENCH.due("lexeme(0, -1)", x.lexeme(0, -1), LayoutDesk.BAD);
    BENCH.due("lexeme(0, 6)", x.lexeme(0, 6), LayoutDesk.BAD);
    BENCH.due("lexeme(-1, 0)", x.lexeme(-1, 0), LayoutDesk.NONE);
    BENCH.due("lexeme(3, 5)", x.lexeme(3, 5), LayoutDesk.NONE);
    BENCH.due("lexeme(least, 2)", x.lexeme(Integer.MIN_VALUE, 2), LayoutDesk.NONE);
    BENCH.due("lexeme(most, 2)", x.lexeme(Integer.MAX_VALUE, 2), LayoutDesk.NONE);
    x.alter(0, 32);
    BENCH.due("LEXEMES are those of the latest read()", x.lexeme(0, 2), 0);
    BENCH.due("LEXEMES are those of the latest read()", x.count(1), 3);
  }
}
