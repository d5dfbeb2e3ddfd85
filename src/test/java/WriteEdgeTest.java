/** Section 4 and promise 15, sentence by sentence, in both forms; what is written is read as it was. */
public final class WriteEdgeTest {
  private static final Bench BENCH = new Bench();
  private static final int MOST_BYTES = 3000;

  public static void main(String[] args) {
    emptyProgram();
    emptyBlocks();
    declarations();
    expressions();
    blocksWithOne();
    blocksWithMore();
    tokensBehindBlocks();
    blocksWithin();
    whatWasLaidOut();
    theTextBecomesIt();
    deepest();
    fullWithBraces();
    fullByColumns();
    BENCH.end();
  }

  private static LayoutDesk readDesk(String text) {
    LayoutDesk desk = Bench.desk(text);
    BENCH.due("read() of " + text, desk.read() > 0 ? 1 : 0, 1);
    return desk;
  }

  /** Both forms of the program, each of which is read as it was, and written so again. */
  private static void dueWritten(String text, String braces, String columns) {
    String[] forms = {braces, columns};
    for (int form = 0; form < 2; form++) {
      LayoutDesk desk = readDesk(text);
      int nodes = desk.count(3);
      long digest = desk.digest();
      String tree = Bench.tree(desk, 0);
      BENCH.due("write(" + form + ") of " + text, desk.write(form), forms[form].length());
      BENCH.dueText("write(" + form + ") of " + text, Bench.text(desk), forms[form]);
      BENCH.due("read() of " + forms[form], desk.read(), nodes);
      BENCH.dueText("TREE of " + forms[form], Bench.tree(desk, 0), tree);
      BENCH.due("digest() of " + forms[form], desk.digest(), digest);
      for (int other = 0; other < 2; other++) {
        BENCH.due("write(" + other + ") of " + forms[form], desk.write(other), forms[other].length());
        BENCH.dueText("write(" + other + ") of " + forms[form], Bench.text(desk), forms[other]);
      }
    }
  }

  private static void dueExpression(String text, String braces, String columns) {
    dueWritten("f=" + text, "{ f = " + braces + " }", "f = " + columns);
  }

  /** An expression without blocks is in one line, with one 32 between each two TOKENS. */
  private static void dueOneLine(String text, String written) {
    dueExpression(text, written, written);
  }

  /** "(a block that is empty: { }); the PROGRAM's, too"; by columns "the PROGRAM's: no bytes". */
  private static void emptyProgram() {
    dueWritten("", "{ }", "");
    dueWritten("{}", "{ }", "");
    dueWritten(" {;;} -- a", "{ }", "");
    dueWritten(" \n ", "{ }", "");
  }

  /** "An empty block is { }", of each word that has one. */
  private static void emptyBlocks() {
    dueOneLine("do{}", "do { }");
    dueOneLine("do", "do { }");
    dueOneLine("case a of{}", "case a of { }");
    dueOneLine("let{}in a", "let { } in a");
    dueOneLine("a where{}", "a where { }");
    dueOneLine("do{}+do{}", "do { } + do { }");
    dueOneLine("(do{},[case a of{}])", "( do { } , [ case a of { } ] )");
    dueExpression("do{let{}}", "do { let { } }", "do\n    let { }");
    dueExpression("do{let{};a}", "do { let { } ; a }", "do\n    let { }\n    a");
    dueExpression("do{let{}in a}", "do { let { } in a }", "do\n    let { } in a");
    dueExpression("case a of{b->c where{}}", "case a of { b -> c where { } }",
        "case a of\n    b -> c where { }");
    // An empty block ends no line, though one that is not empty is behind it.
    dueExpression("do{}+do{a}", "do { } + do { a }", "do { } + do\n    a");
  }

  /** "declarations .. as told"; "the PROGRAM's declarations begin at COLUMN 1, each in a line". */
  private static void declarations() {
    dueWritten("f=1", "{ f = 1 }", "f = 1");
    dueWritten("   f=1;g=2", "{ f = 1 ; g = 2 }", "f = 1\ng = 2");
    dueWritten("{f=1;;g a=2;h(b)(C d)=3;}", "{ f = 1 ; g a = 2 ; h ( b ) ( C d ) = 3 }",
        "f = 1\ng a = 2\nh ( b ) ( C d ) = 3");
  }

  private static void expressions() {
    dueOneLine("a", "a");
    dueOneLine("A'", "A'");
    dueOneLine("0", "0");
    dueOneLine("999999", "999999");
    dueOneLine("100000", "100000");
    dueOneLine("10", "10");
    dueOneLine("a+b<=>c", "a + b <=> c");
    dueOneLine("a b(c d)", "a b ( c d )");
    dueOneLine("(a)", "( a )");
    dueOneLine("()", "( )");
    dueOneLine("(a,b)", "( a , b )");
    dueOneLine("(a,b,c)", "( a , b , c )");
    dueOneLine("[]", "[ ]");
    dueOneLine("[a]", "[ a ]");
    dueOneLine("[a,b]", "[ a , b ]");
    dueOneLine("\\a->b", "\\ a -> b");
    dueOneLine("\\a(B c)1->b", "\\ a ( B c ) 1 -> b");
    dueOneLine("if a;then b;else c", "if a then b else c");
  }

  /** "behind its word a byte 10; each thing in it in a line of its own, from COLUMN c + 4 on". */
  private static void blocksWithOne() {
    dueExpression("do{a}", "do { a }", "do\n    a");
    dueExpression("do{a<-b}", "do { a <- b }", "do\n    a <- b");
    dueExpression("do{B c<-d}", "do { B c <- d }", "do\n    B c <- d");
    dueExpression("do{let{a=1}}", "do { let { a = 1 } }", "do\n    let\n        a = 1");
    dueExpression("case a of{b->c}", "case a of { b -> c }", "case a of\n    b -> c");
    dueExpression("let{a=1}in b", "let { a = 1 } in b", "let\n    a = 1\n  in b");
    dueExpression("a where{b=1}", "a where { b = 1 }", "a where\n    b = 1");
  }

  private static void blocksWithMore() {
    dueExpression("do{a;b<-c;let{};d}", "do { a ; b <- c ; let { } ; d }",
        "do\n    a\n    b <- c\n    let { }\n    d");
    dueExpression("case a of{b->1;C d->2;3->4}", "case a of { b -> 1 ; C d -> 2 ; 3 -> 4 }",
        "case a of\n    b -> 1\n    C d -> 2\n    3 -> 4");
    dueExpression("let{a=1;b=2}in c", "let { a = 1 ; b = 2 } in c", "let\n    a = 1\n    b = 2\n  in c");
    dueExpression("a where{b=1;c=2};g=3", "a where { b = 1 ; c = 2 } ; g = 3",
        "a where\n    b = 1\n    c = 2\ng = 3");
  }

  /** "a TOKEN of the same thing that comes behind such a block is in a line of its own, from c + 2". */
  private static void tokensBehindBlocks() {
    dueExpression("(do{a})", "( do { a } )", "( do\n    a\n  )");
    dueExpression("[do{a},b]", "[ do { a } , b ]", "[ do\n    a\n  , b ]");
    dueExpression("do{a}+b", "do { a } + b", "do\n    a\n  + b");
    dueExpression("if do{a}then b else c", "if do { a } then b else c", "if do\n    a\n  then b else c");
    dueExpression("if a then do{b}else c", "if a then do { b } else c", "if a then do\n    b\n  else c");
    dueExpression("case do{a}of{}", "case do { a } of { }", "case do\n    a\n  of { }");
    dueExpression("case do{a}of{b->c}", "case do { a } of { b -> c }", "case do\n    a\n  of\n    b -> c");
    dueExpression("do{a}where{}", "do { a } where { }", "do\n    a\n  where { }");
    dueExpression("do{a}where{b=1}", "do { a } where { b = 1 }", "do\n    a\n  where\n    b = 1");
    dueExpression("let{a=1}in do{b}+c", "let { a = 1 } in do { b } + c",
        "let\n    a = 1\n  in do\n    b\n  + c");
    dueExpression("a(do{b})c", "a ( do { b } ) c", "a ( do\n    b\n  ) c");
    dueExpression("((do{a}))", "( ( do { a } ) )", "( ( do\n    a\n  ) )");
  }

  /** "c being the COLUMN of the block around". */
  private static void blocksWithin() {
    dueExpression("do{do{a}}", "do { do { a } }", "do\n    do\n        a");
    dueExpression("do{do{do{a}}+b}+c", "do { do { do { a } } + b } + c",
        "do\n    do\n        do\n            a\n      + b\n  + c");
    dueExpression("do{do{a};b}", "do { do { a } ; b }", "do\n    do\n        a\n    b");
    dueExpression("(do{(do{a})})", "( do { ( do { a } ) } )",
        "( do\n    ( do\n        a\n      )\n  )");
    dueExpression("(do{do{a}})", "( do { do { a } } )", "( do\n    do\n        a\n  )");
    dueExpression("case a of{b->do{c}where{d=1};e->2}",
        "case a of { b -> do { c } where { d = 1 } ; e -> 2 }",
        "case a of\n    b -> do\n        c\n      where\n        d = 1\n    e -> 2");
    dueExpression("do{let{a=1}in b;c<-do{d}+e}", "do { let { a = 1 } in b ; c <- do { d } + e }",
        "do\n    let\n        a = 1\n      in b\n    c <- do\n        d\n      + e");
    dueExpression("let{a=do{b};c=d where{e=1}}in g",
        "let { a = do { b } ; c = d where { e = 1 } } in g",
        "let\n    a = do\n        b\n    c = d where\n        e = 1\n  in g");
    dueExpression("do{if do{a}then do{b}else do{c};d}",
        "do { if do { a } then do { b } else do { c } ; d }",
        "do\n    if do\n        a\n      then do\n        b\n      else do\n        c\n    d");
  }

  /** How THE TEXT was laid out does not tell: COMMENTS, lines, ; and braces. */
  private static void whatWasLaidOut() {
    String braces = "{ f = do { a ; b } ; g = let { c = 1 } in d }";
    String columns = "f = do\n    a\n    b\ng = let\n    c = 1\n  in d";
    dueWritten("f=do{a;b};g=let{c=1}in d", braces, columns);
    dueWritten("f = do a -- x\n       b\ng = let c = 1 in d", braces, columns);
    dueWritten("  f = do\n     a; ;;b\n\n  g = {- let -} let\n    c = 1\n   in d", braces, columns);
    dueWritten("{f = do {\na\n;\nb};\ng = let c = 1 in d}", braces, columns);
  }

  /** "it is THE TEXT then"; all else stays. */
  private static void theTextBecomesIt() {
    LayoutDesk desk = readDesk("f  =  1 -- a long COMMENT");
    String lexemes = Bench.lexemes(desk);
    String tokens = Bench.tokens(desk);
    desk.clear();
    Bench.put(desk, "$ anything");
    BENCH.due("write(0)", desk.write(0), 9);
    BENCH.dueText("THE TEXT", Bench.text(desk), "{ f = 1 }");
    BENCH.due("at(9)", desk.at(9), LayoutDesk.NONE);
    BENCH.dueText("LEXEMES stay", Bench.lexemes(desk), lexemes);
    BENCH.dueText("TOKENS stay", Bench.tokens(desk), tokens);
    BENCH.due("fault() stays", desk.fault(), 0);
    BENCH.due("it is no read()", desk.count(4), 1);
    BENCH.due("write(1)", desk.write(1), 5);
    BENCH.due("count(0)", desk.count(0), 5);
    BENCH.due("type() goes on behind it", desk.type(0x2B31000000000000L, 0, 2), 7);
    BENCH.dueText("THE TEXT", Bench.text(desk), "f = 1+1");
    BENCH.due("read()", desk.read(), 6);
    desk.clear();
    Bench.put(desk, "(");
    desk.read();
    BENCH.due("write(0) of THE TREE before a FAULT", desk.write(0), 13);
    BENCH.due("fault() stays", desk.fault(), 4);
  }

  /** So many of each as may be open, with as many NODES within one another as that can be. */
  private static void deepest() {
    deepest("f = ", "a + b (", 29, "c", ")");
    deepest("f = ", "a + b [", 29, "", "]");
    deepest("f = ", "a + \\b -> ", 29, "c", "");
    deepest("f = ", "a + if b c then d else ", 29, "e", "");
    deepest("f = ", "a + do {B c <- ", 14, "d", "}");
    deepest("f = ", "a + case b of {C d -> ", 14, "e", "}");
    deepest("f = ", "a + let {b = ", 14, "c", "} in d");
    deepest("f = ", "a + do {let {b = ", 9, "c", "}}");
    deepest("", "f = a + b where {", 29, "", "}");
    deepest("f ", "(B c ", 29, "d", ")");
  }

  private static void deepest(String ahead, String opener, int times, String inside, String closer) {
    String end = ahead.equals("f ") ? " = 1" : "";
    String text = ahead + opener.repeat(times) + inside + closer.repeat(times) + end;
    LayoutDesk desk = readDesk(text);
    int nodes = desk.count(3);
    long digest = desk.digest();
    for (int form : new int[] {0, 1, 1, 0}) {
      BENCH.due("write(" + form + ") of " + text, desk.write(form) > 0 ? 1 : 0, 1);
      BENCH.due("read() of what was written of " + text, desk.read(), nodes);
      BENCH.due("digest() of what was written of " + text, desk.digest(), digest);
    }
    LayoutDesk more = Bench.desk(ahead + opener.repeat(times + 1) + inside + closer.repeat(times + 1) + end);
    more.read();
    BENCH.due("one more of " + opener, more.fault(), 5);
  }

  /** Names with one 32 ahead of each, so many bytes in all. */
  private static String names(int bytes) {
    StringBuilder all = new StringBuilder();
    int left = bytes;
    while (left > 0) {
      int name = left == 14 ? 6 : Math.min(12, left - 1);
      all.append(' ').append("n".repeat(name));
      left -= name + 1;
    }
    return all.toString();
  }

  /** The desk's text stays where the form is FULL, and becomes what is written where it is not. */
  private static void dueBytes(String text, int form, int bytes) {
    LayoutDesk desk = readDesk(text);
    String before = Bench.state(desk);
    if (bytes > MOST_BYTES) {
      BENCH.due("write(" + form + ") of " + bytes, desk.write(form), LayoutDesk.FULL);
      BENCH.dueText("behind write(" + form + ") of " + bytes, Bench.state(desk), before);
      BENCH.dueText("THE TEXT stays", Bench.text(desk), text);
    } else {
      BENCH.due("write(" + form + ") of " + bytes, desk.write(form), bytes);
      BENCH.due("count(0)", desk.count(0), bytes);
      int nodes = desk.count(3);
      BENCH.due("read() of what was written", desk.read(), nodes);
    }
  }

  /** "FULL: more than 3000 (THE TEXT stays)": { f = .. } is 7 bytes and the names. */
  private static void fullWithBraces() {
    for (int bytes = MOST_BYTES - 2; bytes <= MOST_BYTES + 2; bytes++) {
      dueBytes("f=" + names(bytes - 7), 0, bytes);
    }
    // f = .. is 3 bytes and the names.
    dueBytes("f=" + names(MOST_BYTES - 3), 1, MOST_BYTES);
    dueBytes("f=" + names(MOST_BYTES - 3), 0, MOST_BYTES + 4);
  }

  /** f = a where, then lines of four blanks and x = names. */
  private static void fullByColumns() {
    for (int bytes = MOST_BYTES - 2; bytes <= MOST_BYTES + 2; bytes++) {
      int lines = 150;
      String head = "f = a where";
      int rest = bytes - head.length() - lines * "\n    x = 1".length() - "\n    y =".length();
      dueBytes("f=a where{" + "x=1;".repeat(lines) + "y=" + names(rest) + "}", 1, bytes);
    }
    // Far more: lines of 57 bytes.
    String deep = "f=" + "do{".repeat(14) + "a;".repeat(300) + "}".repeat(14);
    dueBytes(deep, 1, 300 * 58);
    dueBytes(deep, 0, 2 + 4 + 14 * 5 + 299 * 4 + 2 + 14 * 2 + 1);
  }
}
