import java.math.BigInteger;

/** Section 3 and promises 12, 13, 14, 16: each KIND with the least it may have, and the digest. */
public final class TreeEdgeTest {
  private static final Bench BENCH = new Bench();
  private static final int KINDS = 20;

  public static void main(String[] args) {
    leastOfEach();
    notWithLess();
    patternsAreAsExpressions();
    rowsOfEachKind();
    namesOfEachLength();
    numbersOfEachLength();
    childrenOfEach();
    mostNodes();
    digestWraps();
    digestOfNoTree();
    BENCH.end();
  }

  private static LayoutDesk readDesk(String text) {
    LayoutDesk desk = Bench.desk(text);
    BENCH.due("read() of " + text, desk.read() > 0 ? 1 : 0, 1);
    return desk;
  }

  private static void dueTree(String expression, String tree) {
    LayoutDesk desk = readDesk("f = " + expression);
    BENCH.dueText("TREE of " + expression, Bench.tree(desk, 0), "PROGRAM(DECLARATION:f(" + tree + "))");
  }

  /** "CHAIN (.. three at least), APPLIED (two ATOMS at least ..), BRACKETS .. TUPLE .. LIST". */
  private static void leastOfEach() {
    dueTree("a + b", "CHAIN(a + b)");
    dueTree("a + b + c", "CHAIN(a + b + c)");
    dueTree("a b", "APPLIED(a b)");
    dueTree("a b c", "APPLIED(a b c)");
    dueTree("(a)", "BRACKETS(a)");
    dueTree("()", "TUPLE()");
    dueTree("(a, b)", "TUPLE(a b)");
    dueTree("(a, b, c)", "TUPLE(a b c)");
    dueTree("[]", "LIST()");
    dueTree("[a]", "LIST(a)");
    dueTree("[a, b]", "LIST(a b)");
    dueTree("\\a -> b", "LAMBDA(a b)");
    dueTree("let {} in a", "LET(BLOCK() a)");
    dueTree("if a then b else c", "IF(a b c)");
    dueTree("case a of {}", "CASE(a BLOCK())");
    dueTree("do {}", "DO(BLOCK())");
    dueTree("do {a <- b}", "DO(BLOCK(TAKING(a b)))");
    dueTree("do {let {}}", "DO(BLOCK(LETTING(BLOCK())))");
    dueTree("case a of {b -> c}", "CASE(a BLOCK(ALTERNATIVE(b c)))");
    dueTree("case a of {b -> c where {}}", "CASE(a BLOCK(ALTERNATIVE(b c BLOCK())))");
    dueTree("a where {}", "a BLOCK()");
    BENCH.dueText("an empty PROGRAM", Bench.tree(readDesk(""), 0), "PROGRAM()");
    BENCH.dueText("an empty PROGRAM with braces", Bench.tree(readDesk("{}"), 0), "PROGRAM()");
    BENCH.due("an empty PROGRAM is one NODE", readDesk("").count(3), 1);
  }

  /** One operand is no CHAIN, one ATOM is not APPLIED, ( ) with one is no TUPLE. */
  private static void notWithLess() {
    dueTree("a", "a");
    dueTree("A", "A");
    dueTree("1", "1");
    dueTree("(1)", "BRACKETS(1)");
    dueTree("((a))", "BRACKETS(BRACKETS(a))");
    dueTree("(())", "BRACKETS(TUPLE())");
    dueTree("([])", "BRACKETS(LIST())");
    dueTree("[()]", "LIST(TUPLE())");
    dueTree("[[]]", "LIST(LIST())");
    dueTree("do {a}", "DO(BLOCK(a))");
    dueTree("() []", "APPLIED(TUPLE() LIST())");
    dueTree("() + []", "CHAIN(TUPLE() + LIST())");
    dueTree("(a b) (c + d)", "APPLIED(BRACKETS(APPLIED(a b)) BRACKETS(CHAIN(c + d)))");
    dueTree("a b + c", "CHAIN(APPLIED(a b) + c)");
    dueTree("\\a -> b + c", "LAMBDA(a CHAIN(b + c))");
  }

  /** "A pattern is NODES as those of an expression"; "of WHOLE patterns a CON and patterns". */
  private static void patternsAreAsExpressions() {
    dueTree("case a of {B -> 1}", "CASE(a BLOCK(ALTERNATIVE(B 1)))");
    dueTree("case a of {B c -> 1}", "CASE(a BLOCK(ALTERNATIVE(APPLIED(B c) 1)))");
    dueTree("case a of {(B) -> 1}", "CASE(a BLOCK(ALTERNATIVE(BRACKETS(B) 1)))");
    dueTree("case a of {(B c 2) -> 1}", "CASE(a BLOCK(ALTERNATIVE(BRACKETS(APPLIED(B c 2)) 1)))");
    dueTree("\\B c -> 1", "LAMBDA(B c 1)");
    dueTree("\\(B c) -> 1", "LAMBDA(BRACKETS(APPLIED(B c)) 1)");
    dueTree("do {B <- 1; B c <- 1; (B c) <- 1}",
        "DO(BLOCK(TAKING(B 1) TAKING(APPLIED(B c) 1) TAKING(BRACKETS(APPLIED(B c)) 1)))");
    BENCH.dueText("a declaration's", Bench.tree(readDesk("f B c (B c) = 1"), 0),
        "PROGRAM(DECLARATION:f(B c BRACKETS(APPLIED(B c)) 1))");
  }

  private static final String ALL_KINDS =
      "fo a = \\b -> let {} in if (1) then [] + 20 else case () of {A -> do {c <- d e; let {}}}";

  /** What node() tells of a NODE of each of the 20 KINDS. */
  private static void rowsOfEachKind() {
    LayoutDesk desk = readDesk(ALL_KINDS);
    int[][] due = {
      {0, -1, 28, 0, 0}, {1, 0, 27, 0, 2}, {2, 1, 1, 0, 1}, {11, 1, 25, 0, 0}, {2, 3, 1, 0, 1},
      {12, 3, 23, 0, 0}, {16, 5, 1, 0, 0}, {13, 5, 21, 0, 0}, {8, 7, 2, 0, 0}, {4, 8, 1, 1, 0},
      {6, 7, 4, 0, 0}, {10, 10, 1, 0, 0}, {5, 10, 1, 0, 1}, {4, 10, 1, 20, 0}, {14, 7, 14, 0, 0},
      {9, 14, 1, 0, 0}, {16, 14, 12, 0, 0}, {17, 16, 11, 0, 0}, {3, 17, 1, 0, 1}, {15, 17, 9, 0, 0},
      {16, 19, 8, 0, 0}, {18, 20, 5, 0, 0}, {2, 21, 1, 0, 1}, {7, 21, 3, 0, 0}, {2, 23, 1, 0, 1},
      {2, 23, 1, 0, 1}, {19, 20, 2, 0, 0}, {16, 26, 1, 0, 0}};
    BENCH.due("how many NODES", desk.count(3), due.length);
    boolean[] seen = new boolean[KINDS];
    for (int i = 0; i < due.length; i++) {
      for (int what = 0; what < 5; what++) {
        BENCH.due("node(" + i + ", " + what + ")", desk.node(i, what), due[i][what]);
      }
      seen[due[i][0]] = true;
    }
    for (int kind = 0; kind < KINDS; kind++) {
      BENCH.due("KIND " + kind + " is there", seen[kind] ? 1 : 0, 1);
    }
  }

  private static void namesOfEachLength() {
    String long12 = "abcdefghijkl";
    for (int n = 1; n <= 12; n++) {
      String name = "_" + long12.substring(1, n);
      String con = "Z" + long12.substring(1, n);
      LayoutDesk desk = readDesk(name + " = " + con + " " + name);
      BENCH.due("bytes of a DECLARATION's name", desk.node(1, 4), n);
      BENCH.due("bytes of a CON", desk.node(3, 4), n);
      BENCH.due("bytes of a NAME", desk.node(4, 4), n);
      for (int k = 0; k < n; k++) {
        BENCH.due("letter(1, " + k + ")", desk.letter(1, k), name.charAt(k));
        BENCH.due("letter(3, " + k + ")", desk.letter(3, k), con.charAt(k));
        BENCH.due("letter(4, " + k + ")", desk.letter(4, k), name.charAt(k));
      }
      for (int i : new int[] {1, 3, 4}) {
        BENCH.due("letter(" + i + ", " + n + ")", desk.letter(i, n), LayoutDesk.NONE);
      }
    }
    for (String operator : new String[] {"+", "-*", "<=>"}) {
      LayoutDesk desk = readDesk("f = a" + operator + "b");
      BENCH.due("bytes of an OPERATOR", desk.node(4, 4), operator.length());
      for (int k = 0; k < operator.length(); k++) {
        BENCH.due("letter(4, " + k + ")", desk.letter(4, k), operator.charAt(k));
      }
      BENCH.due("the letter behind", desk.letter(4, operator.length()), LayoutDesk.NONE);
    }
  }

  private static void numbersOfEachLength() {
    String[] all = {"0", "1", "9", "10", "99", "100", "1000", "10000", "99999", "100000", "999999",
      "00", "000000", "01", "000001", "012345"};
    for (String number : all) {
      LayoutDesk desk = readDesk("f = " + number);
      BENCH.due("the NUMBER " + number, desk.node(2, 3), Integer.parseInt(number));
      BENCH.due("its KIND", desk.node(2, 0), 4);
      BENCH.due("it has no name", desk.node(2, 4), 0);
      BENCH.due("it has no letter", desk.letter(2, 0), LayoutDesk.NONE);
    }
  }

  private static void childrenOfEach() {
    LayoutDesk desk = readDesk(ALL_KINDS);
    for (int i = 0; i < desk.count(3); i++) {
      int k = 0;
      for (int j = 0; j < desk.count(3); j++) {
        if (desk.node(j, 1) == i) {
          BENCH.due("child(" + i + ", " + k + ")", desk.child(i, k), j);
          k++;
        }
      }
      BENCH.due("child(" + i + ", " + k + ")", desk.child(i, k), LayoutDesk.NONE);
      BENCH.due("child(" + i + ", " + (k + 1) + ")", desk.child(i, k + 1), LayoutDesk.NONE);
    }
  }

  /** 800 LEXEMES of which nearly each makes two NODES, and has { } and ; put in ahead of the next. */
  private static void mostNodes() {
    int many = 795;
    LayoutDesk desk = Bench.desk("{f=do\n" + "do\n".repeat(many) + "  a");
    BENCH.due("the read() of an open brace", desk.read(), -100 - desk.count(0));
    BENCH.due("LEXEMES", desk.count(1), many + 5);
    // { f = do, { and a ; behind each but the last of the others, a in the block of the last.
    BENCH.due("TOKENS", desk.count(2), 4 + 1 + (many - 1) * 4 + 3 + 2);
    LayoutDesk whole = readDesk("f=do\n" + " do\n".repeat(740) + "  a b");
    BENCH.due("NODES", whole.count(3), 2 + 2 + 740 * 2 + 3);
    BENCH.due("TOKENS", whole.count(2), 1 + 3 + 1 + 739 * 4 + 2 + 2 + 3);
    int last = whole.count(3) - 1;
    BENCH.due("the last NODE", whole.letter(last, 0), 'b');
    BENCH.due("is in", whole.node(last, 1), last - 2);
    BENCH.due("which is in", whole.node(last - 2, 1), last - 3);
    BENCH.due("child(3, 739)", whole.child(3, 739), last - 4);
    BENCH.due("child(3, 740)", whole.child(3, 740), LayoutDesk.NONE);
    LayoutDesk steps = readDesk("f=do\n" + " a b\n".repeat(398));
    BENCH.due("NODES", steps.count(3), 2 + 2 + 398 * 3);
  }

  /** The digest by whole numbers without a bound, brought to 64 bits at the end alone. */
  private static long digest(LayoutDesk desk) {
    BigInteger h = BigInteger.valueOf(17);
    BigInteger by = BigInteger.valueOf(31);
    for (int i = 0; i < desk.count(3); i++) {
      for (int what = 0; what < 5; what++) {
        h = h.multiply(by).add(BigInteger.valueOf(desk.node(i, what)));
      }
      for (int k = 0; k < desk.node(i, 4); k++) {
        h = h.multiply(by).add(BigInteger.valueOf(desk.letter(i, k)));
      }
    }
    return h.longValue();
  }

  /** "as longs that wrap". */
  private static void digestWraps() {
    String[] texts = {"", "f=1", "f=a", ALL_KINDS, "f = " + "abcdefghijkl ".repeat(200),
      "f=do\n" + " do\n".repeat(740)};
    for (String text : texts) {
      LayoutDesk desk = readDesk(text);
      BENCH.due("digest() of " + text, desk.digest(), digest(desk));
    }
    BENCH.due("digest() of an empty PROGRAM", readDesk("").digest(), digest(readDesk("{;}")));
    // 17 * 31^5 - 31^3 + 31^2.
    BENCH.due("digest() of an empty PROGRAM", readDesk("").digest(), 17L * 28629151 - 29791 + 961);
  }

  private static void digestOfNoTree() {
    BENCH.due("digest() of a new desk", new LayoutDesk().digest(), 17);
    BENCH.due("digest() before read()", Bench.desk("f = 1").digest(), 17);
    LayoutDesk desk = Bench.desk("f = (");
    desk.read();
    BENCH.due("digest() behind a FAULT alone", desk.digest(), 17);
  }
}
