/** Section 3 with promises 12, 13, 14, 16: node, letter, child, digest. */
public final class TreeTest {
  private static final Bench BENCH = new Bench();

  public static void main(String[] args) {
    shapes();
    numbers();
    names();
    parts();
    wrongInputs();
    treeStays();
    digests();
    most();
    BENCH.end();
  }

  private static void dueTree(String text, String tree) {
    LayoutDesk x = Bench.desk(text);
    int nodes = x.read();
    BENCH.dueText("TREE of " + text, nodes > 0 ? Bench.tree(x, 0) : "none", tree);
    BENCH.due("node(0, 2) of " + text, x.node(0, 2), nodes);
  }

  private static void dueExpression(String text, String tree) {
    dueTree("f = " + text, "PROGRAM(DECLARATION:f(" + tree + "))");
  }

  private static void shapes() {
    dueTree("", "PROGRAM()");
    dueTree("{;}", "PROGRAM()");
    dueTree("f = 1\ng=2", "PROGRAM(DECLARATION:f(1) DECLARATION:g(2))");
    dueTree("f a B 1 (C d) (((e))) = 1",
        "PROGRAM(DECLARATION:f(a B 1 BRACKETS(APPLIED(C d)) BRACKETS(BRACKETS(BRACKETS(e))) 1))");
    dueTree("f = a where\ng = 1", "PROGRAM(DECLARATION:f(a BLOCK()) DECLARATION:g(1))");
    dueTree("f = a where g = b where h = 1",
        "PROGRAM(DECLARATION:f(a BLOCK(DECLARATION:g(b BLOCK(DECLARATION:h(1))))))");
    dueExpression("a + b * c", "CHAIN(a + b * c)");
    dueExpression("a b + c d (e f)", "CHAIN(APPLIED(a b) + APPLIED(c d BRACKETS(APPLIED(e f))))");
    dueExpression("1 2 A [] ()", "APPLIED(1 2 A LIST() TUPLE())");
    dueExpression("(a)", "BRACKETS(a)");
    dueExpression("(a, b c, d + 1)", "TUPLE(a APPLIED(b c) CHAIN(d + 1))");
    dueExpression("[a]", "LIST(a)");
    dueExpression("[[a, b], [], (c)]", "LIST(LIST(a b) LIST() BRACKETS(c))");
    dueExpression("\\x (C y) -> x + y", "LAMBDA(x BRACKETS(APPLIED(C y)) CHAIN(x + y))");
    dueExpression("a + \\x -> x + b", "CHAIN(a + LAMBDA(x CHAIN(x + b)))");
    dueExpression("let x = 1; y = 2 in x + y",
        "LET(BLOCK(DECLARATION:x(1) DECLARATION:y(2)) CHAIN(x + y))");
    dueExpression("let in x", "LET(BLOCK() x)");
    dueExpression("if a + b then c d else e + f",
        "IF(CHAIN(a + b) APPLIED(c d) CHAIN(e + f))");
    dueExpression("if a then if b then c else d else e", "IF(a IF(b c d) e)");
    dueExpression("case x y of C a -> 1 ; (D b) -> 2 + 3; 4 -> a where a = 1",
        "CASE(APPLIED(x y) BLOCK(ALTERNATIVE(APPLIED(C a) 1) "
            + "ALTERNATIVE(BRACKETS(APPLIED(D b)) CHAIN(2 + 3)) "
            + "ALTERNATIVE(4 a BLOCK(DECLARATION:a(1)))))");
    dueExpression("case x of {} + 1", "CHAIN(CASE(x BLOCK()) + 1)");
    dueExpression("do {} * do {a}", "CHAIN(DO(BLOCK()) * DO(BLOCK(a)))");
    dueExpression("do {a <- b; C d <- e f; let {g = 1}; h + i; let {} in j; (k) <- l}",
        "DO(BLOCK(TAKING(a b) TAKING(APPLIED(C d) APPLIED(e f)) LETTING(BLOCK(DECLARATION:g(1))) "
            + "CHAIN(h + i) LET(BLOCK() j) TAKING(BRACKETS(k) l)))");
    dueExpression("do a\n        + b", "DO(BLOCK(CHAIN(a + b)))");
    // As far in as a: a ; is put in, behind which + cannot stand, but } could.
    dueExpression("do a\n       + b", "CHAIN(DO(BLOCK(a)) + b)");
    dueExpression("do a\n      + b", "CHAIN(DO(BLOCK(a)) + b)");
    dueExpression("(do a) + b", "CHAIN(BRACKETS(DO(BLOCK(a))) + b)");
    dueExpression("let x = do a\n in b", "LET(BLOCK(DECLARATION:x(DO(BLOCK(a)))) b)");
  }

  private static void numbers() {
    LayoutDesk x = Bench.desk("f = g + 012 [999999]");
    BENCH.due("read()", x.read(), 9);
    long[][] due = {
      {0, -1, 9, 0, 0}, {1, 0, 8, 0, 1}, {6, 1, 7, 0, 0}, {2, 2, 1, 0, 1}, {5, 2, 1, 0, 1},
      {7, 2, 4, 0, 0}, {4, 5, 1, 12, 0}, {10, 5, 2, 0, 0}, {4, 7, 1, 999999, 0}};
    for (int i = 0; i < due.length; i++) {
      for (int what = 0; what < 5; what++) {
        BENCH.due("node(" + i + ", " + what + ")", x.node(i, what), due[i][what]);
      }
    }
    LayoutDesk y = Bench.desk("f = 0 000000 000001 123456");
    y.read();
    BENCH.dueText("numbers", Bench.tree(y, 0), "PROGRAM(DECLARATION:f(APPLIED(0 0 1 123456)))");
  }

  private static void names() {
    LayoutDesk x = Bench.desk("abcdefghij'l = Ab' +-* c");
    BENCH.due("read()", x.read(), 6);
    BENCH.due("node(1, 4)", x.node(1, 4), 12);
    BENCH.due("letter(1, 0)", x.letter(1, 0), 'a');
    BENCH.due("letter(1, 10)", x.letter(1, 10), '\'');
    BENCH.due("letter(1, 11)", x.letter(1, 11), 'l');
    BENCH.due("letter(1, 12)", x.letter(1, 12), LayoutDesk.NONE);
    BENCH.due("letter(1, -1)", x.letter(1, -1), LayoutDesk.NONE);
    BENCH.due("letter(1, most)", x.letter(1, Integer.MAX_VALUE), LayoutDesk.NONE);
    BENCH.due("letter(3, 1)", x.letter(3, 1), 'b');
    BENCH.due("letter(4, 2)", x.letter(4, 2), '*');
    BENCH.due("letter(0, 0)", x.letter(0, 0), LayoutDesk.NONE);
    BENCH.due("letter(2, 0)", x.letter(2, 0), LayoutDesk.NONE);
    BENCH.due("letter(6, 0)", x.letter(6, 0), LayoutDesk.BAD);
    BENCH.due("letter(-1, 0)", x.letter(-1, 0), LayoutDesk.BAD);
    LayoutDesk y = Bench.desk("f = 12");
    y.read();
    BENCH.due("a NUMBER has no name", y.letter(2, 0), LayoutDesk.NONE);
    BENCH.due("a NUMBER has no name", y.node(2, 4), 0);
  }

  private static void parts() {
    LayoutDesk x = Bench.desk("f = a b + c (d)\ng = 1");
    BENCH.due("read()", x.read(), 13);
    BENCH.due("child(0, 0)", x.child(0, 0), 1);
    BENCH.due("child(0, 1)", x.child(0, 1), 11);
    BENCH.due("child(0, 2)", x.child(0, 2), LayoutDesk.NONE);
    BENCH.due("child(0, -1)", x.child(0, -1), LayoutDesk.NONE);
    BENCH.due("child(0, most)", x.child(0, Integer.MAX_VALUE), LayoutDesk.NONE);
    BENCH.due("child(2, 0)", x.child(2, 0), 3);
    BENCH.due("child(2, 1)", x.child(2, 1), 6);
    BENCH.due("child(2, 2)", x.child(2, 2), 7);
    BENCH.due("child(2, 3)", x.child(2, 3), LayoutDesk.NONE);
    BENCH.due("child(4, 0)", x.child(4, 0), LayoutDesk.NONE);
    BENCH.due("child(12, 0)", x.child(12, 0), LayoutDesk.NONE);
    BENCH.due("child(13, 0)", x.child(13, 0), LayoutDesk.BAD);
    BENCH.due("child(-1, 0)", x.child(-1, 0), LayoutDesk.BAD);
  }

  private static void wrongInputs() {
    LayoutDesk x = Bench.desk("f = 1");
    x.read();
    BENCH.due("node(0, -1)", x.node(0, -1), Integer.MIN_VALUE);
    BENCH.due("node(0, 5)", x.node(0, 5), Integer.MIN_VALUE);
    BENCH.due("node(-1, 0)", x.node(-1, 0), Integer.MIN_VALUE);
    BENCH.due("node(3, 0)", x.node(3, 0), Integer.MIN_VALUE);
    BENCH.due("node(most, 0)", x.node(Integer.MAX_VALUE, 0), Integer.MIN_VALUE);
    BENCH.due("node(least, 9)", x.node(Integer.MIN_VALUE, 9), Integer.MIN_VALUE);
  }

  private static void treeStays() {
    LayoutDesk x = Bench.desk("foo = Bar 12");
    x.read();
    x.alter(0, 'g');
    BENCH.dueText("behind alter()", Bench.tree(x, 0), "PROGRAM(DECLARATION:foo(APPLIED(Bar 12)))");
    x.alter(11, '$');
    BENCH.due("read()", x.read(), -111);
    BENCH.dueText("behind a FAULT", Bench.tree(x, 0), "PROGRAM(DECLARATION:foo(APPLIED(Bar 12)))");
    x.alter(11, '(');
    BENCH.due("read()", x.read(), -112);
    BENCH.dueText("behind a FAULT", Bench.tree(x, 0), "PROGRAM(DECLARATION:foo(APPLIED(Bar 12)))");
    x.alter(11, '3');
    BENCH.due("read()", x.read(), 5);
    BENCH.dueText("behind read()", Bench.tree(x, 0), "PROGRAM(DECLARATION:goo(APPLIED(Bar 13)))");
  }

  private static void digests() {
    LayoutDesk x = Bench.desk("");
    x.read();
    long h = 17;
    for (int value : new int[] {0, -1, 1, 0, 0}) {
      h = 31 * h + value;
    }
    BENCH.due("digest() of an empty PROGRAM", x.digest(), h);
    LayoutDesk y = Bench.desk("fo = 7");
    y.read();
    h = 17;
    for (int value : new int[] {0, -1, 3, 0, 0, 1, 0, 2, 0, 2, 'f', 'o', 4, 1, 1, 7, 0}) {
      h = 31 * h + value;
    }
    BENCH.due("digest()", y.digest(), h);
  }

  /** Texts that make the most of the LEXEMES that there may be. */
  private static void most() {
    String doing = "f=" + "do{}+".repeat(159) + "do{}";
    LayoutDesk x = Bench.desk(doing);
    BENCH.due("read() of do{}+..", x.read(), 2 + 1 + 160 * 2 + 159);
    String letting = "f=do{" + "let{};".repeat(198) + "}";
    LayoutDesk y = Bench.desk(letting);
    BENCH.due("read() of let{};..", y.read(), 2 + 2 + 198 * 2);
    StringBuilder words = new StringBuilder();
    for (int k = 0; k < 190; k++) {
      words.append("f=do\n");
    }
    LayoutDesk z = Bench.desk(words.toString());
    BENCH.due("read() of f=do..", z.read(), 1 + 190 * 3);
    BENCH.due("count(2)", z.count(2), 190 * 6 + 1);
  }
}
