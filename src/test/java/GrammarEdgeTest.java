/** The grammar of section 2, line by line: the least and the most of each, and what cannot stand. */
public final class GrammarEdgeTest {
  private static final Bench BENCH = new Bench();

  public static void main(String[] args) {
    parts();
    declarations();
    wheres();
    chains();
    lambdas();
    lets();
    ifs();
    partAheadOfThen();
    noPartAheadOfThen();
    cases();
    dos();
    atoms();
    patterns();
    takings();
    noTakings();
    lettings();
    signsForOneAnother();
    BENCH.end();
  }

  /** The one declaration's expression, in a program with braces, has that TREE. */
  private static void dueExpression(String text, String tree) {
    dueProgram("{f = " + text + "}", "DECLARATION:f(" + tree + ")");
  }

  private static void dueProgram(String text, String tree) {
    LayoutDesk desk = Bench.desk(text);
    int nodes = desk.read();
    BENCH.dueText("TREE of " + text, nodes > 0 ? Bench.tree(desk, 0) : "FAULT at " + (-100 - nodes),
        "PROGRAM(" + tree + ")");
    BENCH.due("fault() of " + text, desk.fault(), 0);
  }

  /** FAULT 4 at the LEXEME of that number, behind all that are ahead of it; there are braces alone. */
  private static void dueRefused(String text, int lexeme) {
    LayoutDesk desk = Bench.desk(text);
    int answer = desk.read();
    int place = lexeme < desk.count(1) ? desk.lexeme(lexeme, 0) : text.length();
    BENCH.due("read() of " + text, answer, -100 - place);
    BENCH.due("fault() of " + text, desk.fault(), 4);
    StringBuilder tokens = new StringBuilder();
    for (int i = 0; i < lexeme; i++) {
      tokens.append(i == 0 ? "" : " ").append(i);
    }
    BENCH.dueText("TOKENS of " + text, Bench.tokens(desk), tokens.toString());
  }

  private static void refusedExpression(String text, int lexeme) {
    dueRefused("{f = " + text + "}", lexeme + 3);
  }

  /** "blocks are in { }, parted by ;, of which there may be any number also without something". */
  private static void parts() {
    dueProgram("{}", "");
    dueProgram("{;}", "");
    dueProgram("{;;;}", "");
    dueProgram("{f = 1}", "DECLARATION:f(1)");
    dueProgram("{;f = 1;}", "DECLARATION:f(1)");
    dueProgram("{f = 1;g = 2}", "DECLARATION:f(1) DECLARATION:g(2)");
    dueProgram("{;;f = 1;;;g = 2;;}", "DECLARATION:f(1) DECLARATION:g(2)");
    dueProgram("f = 1;;\n;\n\ng = 2;", "DECLARATION:f(1) DECLARATION:g(2)");
    dueExpression("do {}", "DO(BLOCK())");
    dueExpression("do {;}", "DO(BLOCK())");
    dueExpression("do {;;a;;b;;}", "DO(BLOCK(a b))");
    dueExpression("case a of {;;}", "CASE(a BLOCK())");
    dueExpression("case a of {;b -> 1;;c -> 2;}", "CASE(a BLOCK(ALTERNATIVE(b 1) ALTERNATIVE(c 2)))");
    dueExpression("let {;} in a", "LET(BLOCK() a)");
    dueExpression("let {;b = 1;;c = 2;} in a", "LET(BLOCK(DECLARATION:b(1) DECLARATION:c(2)) a)");
    dueExpression("a where {;}", "a BLOCK()");
    dueExpression("a where {;b = 1;;}", "a BLOCK(DECLARATION:b(1))");
    dueRefused("{f = 1 g = 2}", 5);
    dueRefused("{f = 1, g = 2}", 4);
    refusedExpression("do {a}}", 5);
    refusedExpression("case a of {b -> 1 c -> 2}", 8);
  }

  /** "declaration: NAME, patterns (any number), =, expression". */
  private static void declarations() {
    dueProgram("{f = 1}", "DECLARATION:f(1)");
    dueProgram("{f a = 1}", "DECLARATION:f(a 1)");
    dueProgram("{f a B 1 (c) (D e) = 1}", "DECLARATION:f(a B 1 BRACKETS(c) BRACKETS(APPLIED(D e)) 1)");
    dueProgram("{f " + "a ".repeat(400) + "= 1}", "DECLARATION:f(" + "a ".repeat(400) + "1)");
    dueRefused("{F = 1}", 1);
    dueRefused("{1 = 1}", 1);
    dueRefused("{(f) = 1}", 1);
    dueRefused("{+ = 1}", 1);
    dueRefused("{= 1}", 1);
    dueRefused("{let = 1}", 1);
    dueRefused("{f}", 2);
    dueRefused("{f;}", 2);
    dueRefused("{f =}", 3);
    dueRefused("{f = ;}", 3);
    dueRefused("{f a b}", 4);
    dueRefused("{f [] = 1}", 2);
    dueRefused("{f () = 1}", 3);
    dueRefused("{f (a, b) = 1}", 4);
    dueRefused("{f (a b) = 1}", 4);
    dueRefused("{f + g = 1}", 2);
    dueRefused("{f = 1 = 2}", 4);
  }

  /** "[where, block of declarations]": behind a declaration's expression and a case's, once. */
  private static void wheres() {
    dueExpression("a where {}", "a BLOCK()");
    dueExpression("a + b where {c = 1}", "CHAIN(a + b) BLOCK(DECLARATION:c(1))");
    dueExpression("a where {b = c where {d = 1}}",
        "a BLOCK(DECLARATION:b(c BLOCK(DECLARATION:d(1))))");
    dueExpression("let {a = b where {}} in c", "LET(BLOCK(DECLARATION:a(b BLOCK())) c)");
    dueExpression("case a of {b -> c where {}} where {}", "CASE(a BLOCK(ALTERNATIVE(b c BLOCK()))) BLOCK()");
    refusedExpression("a where {} where {}", 4);
    refusedExpression("case a of {b -> c where {} where {}}", 10);
    refusedExpression("(a where {})", 2);
    refusedExpression("do {a where {}}", 3);
    refusedExpression("do {a <- b where {}}", 5);
    refusedExpression("do {let {} where {}}", 5);
    refusedExpression("[\\a -> b where {}]", 5);
    refusedExpression("where {}", 0);
    refusedExpression("a where {b -> c}", 4);
    dueRefused("{f where {}}", 2);
  }

  /** "expression: operands, parted by OPERATORS". */
  private static void chains() {
    dueExpression("a + b", "CHAIN(a + b)");
    dueExpression("a + b - c * d", "CHAIN(a + b - c * d)");
    dueExpression("do {} + \\a -> b + c", "CHAIN(DO(BLOCK()) + LAMBDA(a CHAIN(b + c)))");
    dueExpression("if a then b else c + d", "IF(a b CHAIN(c + d))");
    dueExpression("let {} in a + b", "LET(BLOCK() CHAIN(a + b))");
    dueExpression("case a of {} + do {} + b", "CHAIN(CASE(a BLOCK()) + DO(BLOCK()) + b)");
    refusedExpression("+ a", 0);
    refusedExpression("a +", 2);
    refusedExpression("a + + b", 2);
    refusedExpression("- 1", 0);
    refusedExpression("a -> b", 1);
    refusedExpression("a <- b", 1);
  }

  /** "\, patterns (one at least), ->, expression". */
  private static void lambdas() {
    dueExpression("\\a -> b", "LAMBDA(a b)");
    dueExpression("\\a B 1 (C d) -> b", "LAMBDA(a B 1 BRACKETS(APPLIED(C d)) b)");
    dueExpression("\\a -> \\b -> c", "LAMBDA(a LAMBDA(b c))");
    refusedExpression("\\ -> b", 1);
    refusedExpression("\\a", 2);
    refusedExpression("\\a b", 3);
    refusedExpression("\\a = b", 2);
    refusedExpression("\\a ->", 3);
    refusedExpression("\\[] -> b", 1);
    refusedExpression("\\() -> b", 2);
    refusedExpression("\\(a b) -> c", 3);
    refusedExpression("a \\b -> c", 1);
  }

  /** "let, block of declarations, in, expression". */
  private static void lets() {
    dueExpression("let {} in a", "LET(BLOCK() a)");
    dueExpression("let {a = 1} in let {b = 2} in c",
        "LET(BLOCK(DECLARATION:a(1)) LET(BLOCK(DECLARATION:b(2)) c))");
    refusedExpression("let {}", 3);
    refusedExpression("let {} a", 3);
    refusedExpression("let {} in", 4);
    refusedExpression("let {} ; in a", 3);
    refusedExpression("let {a} in b", 3);
    refusedExpression("let {a <- b} in c", 3);
    refusedExpression("a let {} in b", 1);
    refusedExpression("in a", 0);
  }

  /** "if, expression [;] then, expression [;] else, expression". */
  private static void ifs() {
    dueExpression("if a then b else c", "IF(a b c)");
    dueExpression("if a + 1 then b + 2 else c + 3", "IF(CHAIN(a + 1) CHAIN(b + 2) CHAIN(c + 3))");
    dueExpression("if if a then b else c then d else e", "IF(IF(a b c) d e)");
    refusedExpression("if then b else c", 1);
    refusedExpression("if a", 2);
    refusedExpression("if a b", 3);
    refusedExpression("if a else b", 2);
    refusedExpression("if a then else b", 3);
    refusedExpression("if a then b", 4);
    refusedExpression("if a then b then c", 4);
    refusedExpression("if a then b else", 5);
    refusedExpression("then a", 0);
    refusedExpression("else a", 0);
    refusedExpression("a if b then c else d", 1);
  }

  /** "[;] is taken where then, else is the TOKEN behind it". */
  private static void partAheadOfThen() {
    dueExpression("if a; then b; else c", "IF(a b c)");
    dueExpression("if a; then b else c", "IF(a b c)");
    dueExpression("if a then b; else c", "IF(a b c)");
    dueExpression("do {if a; then b; else c; d}", "DO(BLOCK(IF(a b c) d))");
    dueExpression("if a then if b then c else d; else e", "IF(a IF(b c d) e)");
    dueExpression("(if a; then [if b; then c; else d]; else e)",
        "BRACKETS(IF(a LIST(IF(b c d)) e))");
    BENCH.dueTokens("f = do\n  if a\n  then b\n  else c\n  d",
        "-10 0 1 2 -10 3 4 -11 5 6 -11 7 8 -11 9 -12 -12");
    BENCH.dueTokens("f = do\n  if a\n  then b else c", "-10 0 1 2 -10 3 4 -11 5 6 7 8 -12 -12");
    BENCH.dueTokens("f = do\n  if a then b\n  else c", "-10 0 1 2 -10 3 4 5 6 -11 7 8 -12 -12");
    BENCH.dueTokens("f = if a\n ;\n then b\n ;\n else c", "-10 0 1 2 3 4 5 6 7 8 9 -12");
    // In the block of do, ; parts steps, and then ends the block.
    BENCH.dueTokens("f = if do a ; then b else c", "-10 0 1 2 3 -10 4 5 -13 6 7 8 9 -12");
    BENCH.dueTokens("f = if do {a ;} ; then b else c", "-10 0 1 2 3 4 5 6 7 8 9 10 11 12 -12");
    // The INDENT of then is above the CONTEXT, so it is the TOKEN behind ;.
    BENCH.dueTokens("f = do\n  if a ;\n   then b else c", "-10 0 1 2 -10 3 4 5 6 7 8 9 -12 -12");
  }

  private static void noPartAheadOfThen() {
    refusedExpression("if a;; then b else c", 2);
    refusedExpression("if a; b", 2);
    refusedExpression("if a; else b", 2);
    refusedExpression("if a then b;; else c", 4);
    refusedExpression("if a then b; then c", 4);
    refusedExpression("if a then b; c", 4);
    refusedExpression("if a;", 2);
    refusedExpression("if; then b else c", 1);
    refusedExpression("if a then; else c", 3);
    refusedExpression("if a then b else; c", 5);
    refusedExpression("case a; of {}", 2);
    refusedExpression("(a; then b)", 2);
    // The TOKEN behind ; is one that is put in: ; or }.
    BENCH.dueFault("f = do\n  if a ;\n  then b else c", 4, 14, "-10 0 1 2 -10 3 4");
    BENCH.dueFault("f = do\n  if a ;\n then b else c", 4, 14, "-10 0 1 2 -10 3 4");
    BENCH.dueFault("f = do\n  if a then b ;\n  else c", 4, 21, "-10 0 1 2 -10 3 4 5 6");
    // The ; that is put in, and no then behind it; } ahead of then.
    BENCH.dueFault("f = do\n  if a\n  b", 4, 16, "-10 0 1 2 -10 3 4");
    BENCH.dueFault("f = do\n  if a\n then b", 4, 15, "-10 0 1 2 -10 3 4");
    BENCH.dueFault("f = do\n  if a\n  ; then b", 4, 16, "-10 0 1 2 -10 3 4");
  }

  /** "case, expression, of, block of cases"; "case: a WHOLE pattern, ->, expression [where ..]". */
  private static void cases() {
    dueExpression("case a of {}", "CASE(a BLOCK())");
    dueExpression("case a + b of {c -> d + e}", "CASE(CHAIN(a + b) BLOCK(ALTERNATIVE(c CHAIN(d + e))))");
    dueExpression("case a of {B -> 1; C d 2 (E) -> 2; 3 -> 3; (F g) -> 4; (h) -> 5}",
        "CASE(a BLOCK(ALTERNATIVE(B 1) ALTERNATIVE(APPLIED(C d 2 BRACKETS(E)) 2) ALTERNATIVE(3 3) "
            + "ALTERNATIVE(BRACKETS(APPLIED(F g)) 4) ALTERNATIVE(BRACKETS(h) 5)))");
    dueExpression("case case a of {} of {}", "CASE(CASE(a BLOCK()) BLOCK())");
    refusedExpression("case of {}", 1);
    refusedExpression("case a", 2);
    refusedExpression("case a {}", 2);
    refusedExpression("case a of {b}", 5);
    refusedExpression("case a of {b = c}", 5);
    refusedExpression("case a of {b <- c}", 5);
    refusedExpression("case a of {b ->}", 6);
    refusedExpression("case a of {b c -> d}", 5);
    refusedExpression("case a of {1 c -> d}", 5);
    refusedExpression("case a of {(B) c -> d}", 7);
    refusedExpression("case a of {[] -> d}", 4);
    refusedExpression("case a of {() -> d}", 5);
    refusedExpression("case a of { -> d}", 4);
    refusedExpression("case a of {b -> c -> d}", 7);
    refusedExpression("a case b of {}", 1);
    refusedExpression("of {}", 0);
  }

  /** "do, block of steps". */
  private static void dos() {
    dueExpression("do {}", "DO(BLOCK())");
    dueExpression("do {a}", "DO(BLOCK(a))");
    dueExpression("do {a b; 1; \\c -> d; [e]; if f then g else h; case i of {}; do {}}",
        "DO(BLOCK(APPLIED(a b) 1 LAMBDA(c d) LIST(e) IF(f g h) CASE(i BLOCK()) DO(BLOCK())))");
    refusedExpression("do {=}", 2);
    refusedExpression("do {a = b}", 3);
    refusedExpression("do {a -> b}", 3);
    refusedExpression("do {in}", 2);
    refusedExpression("a do {b}", 1);
    refusedExpression("do {a} b", 4);
    refusedExpression("do {+ a}", 2);
  }

  /** "ATOM: NAME, CON, NUMBER, ( ), ( expression ), ( two or more .. ), [ ], [ expressions .. ]". */
  private static void atoms() {
    dueExpression("a", "a");
    dueExpression("B", "B");
    dueExpression("1", "1");
    dueExpression("()", "TUPLE()");
    dueExpression("(a)", "BRACKETS(a)");
    dueExpression("(a, b)", "TUPLE(a b)");
    dueExpression("(a, b, c + d)", "TUPLE(a b CHAIN(c + d))");
    dueExpression("[]", "LIST()");
    dueExpression("[a]", "LIST(a)");
    dueExpression("[a, b]", "LIST(a b)");
    dueExpression("[a, b, c + d]", "LIST(a b CHAIN(c + d))");
    dueExpression("a B 1 () (c) [] [d]", "APPLIED(a B 1 TUPLE() BRACKETS(c) LIST() LIST(d))");
    refusedExpression("(,)", 1);
    refusedExpression("(,a)", 1);
    refusedExpression("(a,)", 3);
    refusedExpression("(a,,b)", 3);
    refusedExpression("(a;b)", 2);
    refusedExpression("[,]", 1);
    refusedExpression("[a,]", 3);
    refusedExpression("[,a]", 1);
    refusedExpression("(a]", 2);
    refusedExpression("[a)", 2);
    refusedExpression("(]", 1);
    refusedExpression("[)", 1);
    refusedExpression("(+)", 1);
    refusedExpression("(a +)", 3);
    refusedExpression(")", 0);
    refusedExpression("]", 0);
    refusedExpression(",", 0);
  }

  /** "pattern: NAME, CON, NUMBER, ( WHOLE pattern ). WHOLE pattern: a pattern, or CON and patterns". */
  private static void patterns() {
    dueProgram("{f a B 1 (c) (D) (2) (E f) ((g)) (H (I j) K 3) = 4}",
        "DECLARATION:f(a B 1 BRACKETS(c) BRACKETS(D) BRACKETS(2) BRACKETS(APPLIED(E f)) "
            + "BRACKETS(BRACKETS(g)) BRACKETS(APPLIED(H BRACKETS(APPLIED(I j)) K 3)) 4)");
    dueRefused("{f (", 3);
    dueRefused("{f (a", 4);
    dueRefused("{f (a + b) = 1}", 4);
    dueRefused("{f (1 a) = 1}", 4);
    dueRefused("{f ((A) b) = 1}", 6);
    dueRefused("{f (A [b]) = 1}", 4);
    dueRefused("{f (A ()) = 1}", 5);
    dueRefused("{f (\\a -> b) = 1}", 3);
    dueRefused("{f (A, B) = 1}", 4);
  }

  /** "A step with <-: what stands ahead of it is to be a WHOLE pattern". */
  private static void takings() {
    dueExpression("do {a <- b}", "DO(BLOCK(TAKING(a b)))");
    dueExpression("do {A <- b}", "DO(BLOCK(TAKING(A b)))");
    dueExpression("do {1 <- b}", "DO(BLOCK(TAKING(1 b)))");
    dueExpression("do {A b 1 (C d) <- e + f}",
        "DO(BLOCK(TAKING(APPLIED(A b 1 BRACKETS(APPLIED(C d))) CHAIN(e + f))))");
    dueExpression("do {((a)) <- b; (A b) <- c}",
        "DO(BLOCK(TAKING(BRACKETS(BRACKETS(a)) b) TAKING(BRACKETS(APPLIED(A b)) c)))");
    dueExpression("do {a <- do {b <- c}}", "DO(BLOCK(TAKING(a DO(BLOCK(TAKING(b c))))))");
    BENCH.dueTokens("f = do a <- b\n       c", "-10 0 1 2 -10 3 4 5 -11 6 -12 -12");
  }

  /** "else <- cannot stand there". */
  private static void noTakings() {
    refusedExpression("do {a b <- c}", 4);
    refusedExpression("do {1 a <- c}", 4);
    refusedExpression("do {(A) b <- c}", 6);
    refusedExpression("do {(a b) <- c}", 6);
    refusedExpression("do {A (b c) <- d}", 7);
    refusedExpression("do {A (b + c) <- d}", 8);
    refusedExpression("do {() <- a}", 4);
    refusedExpression("do {[] <- a}", 4);
    refusedExpression("do {[a] <- b}", 5);
    refusedExpression("do {A [] <- b}", 5);
    refusedExpression("do {(a, b) <- c}", 7);
    refusedExpression("do {A () <- c}", 5);
    refusedExpression("do {a + b <- c}", 5);
    refusedExpression("do {\\a -> b <- c}", 6);
    refusedExpression("do {if a then b else c <- d}", 8);
    refusedExpression("do {case a of {} <- b}", 7);
    refusedExpression("do {do {} <- a}", 5);
    refusedExpression("do {(do {}) <- a}", 7);
    refusedExpression("do {let {} in a <- b}", 7);
    refusedExpression("do {a <- b <- c}", 5);
    refusedExpression("do {<- a}", 2);
    refusedExpression("do {a <-}", 4);
    refusedExpression("do {(a <- b)}", 4);
    // Without braces } is put in ahead of <-, as long as it can be.
    BENCH.dueFault("f = do a b <- c", 4, 11, "-10 0 1 2 -10 3 4 -13 -13");
    BENCH.dueFault("f = do {do a b <- c}", 4, 15, "-10 0 1 2 3 4 -10 5 6 -13");
  }

  /** "let in a step: if in comes behind its block, it is an expression". */
  private static void lettings() {
    dueExpression("do {let {}}", "DO(BLOCK(LETTING(BLOCK())))");
    dueExpression("do {let {a = 1}; b}", "DO(BLOCK(LETTING(BLOCK(DECLARATION:a(1))) b))");
    dueExpression("do {let {} in a}", "DO(BLOCK(LET(BLOCK() a)))");
    dueExpression("do {let {} in a + b; c}", "DO(BLOCK(LET(BLOCK() CHAIN(a + b)) c))");
    dueExpression("do {let {}; let {} in a; let {}}",
        "DO(BLOCK(LETTING(BLOCK()) LET(BLOCK() a) LETTING(BLOCK())))");
    dueExpression("do {a <- let {} in b}", "DO(BLOCK(TAKING(a LET(BLOCK() b))))");
    dueExpression("do {a + let {} in b}", "DO(BLOCK(CHAIN(a + LET(BLOCK() b))))");
    dueExpression("do {(let {} in b)}", "DO(BLOCK(BRACKETS(LET(BLOCK() b))))");
    refusedExpression("do {let {} a}", 5);
    refusedExpression("do {let {} + a}", 5);
    refusedExpression("do {let {}; in a}", 6);
    refusedExpression("do {let {} in}", 6);
    refusedExpression("do {let {} <- a}", 5);
    refusedExpression("do {a <- let {}}", 7);
    refusedExpression("do {a + let {}}", 7);
    refusedExpression("do {(let {})}", 6);
    BENCH.dueTokens("f = do let a = 1", "-10 0 1 2 -10 3 -10 4 5 6 -12 -12 -12");
    BENCH.dueTokens("f = do let a = 1 in b", "-10 0 1 2 -10 3 -10 4 5 6 -13 7 8 -12 -12");
    BENCH.dueTokens("f = do\n  let a = 1\n   in b\n  c",
        "-10 0 1 2 -10 3 -10 4 5 6 -12 7 8 -11 9 -12 -12");
    // As far in as let: it is parted from its in, which no step begins with.
    BENCH.dueFault("f = do\n  let a = 1\n  in b", 4, 21, "-10 0 1 2 -10 3 -10 4 5 6 -12 -11 -13 -13");
  }

  /** Where one SIGN or WORD is due, each other one cannot stand. */
  private static void signsForOneAnother() {
    String[] all = {")", "]", ",", "}", "\\", "=", "->", "<-", "let", "in", "where", "do", "of", "case",
      "if", "then", "else", "{", "+"};
    otherThan(all, "{f ", " 1}", 2, "= \\", "=");
    otherThan(all, "{f = \\a ", " b}", 5, "->", "->");
    otherThan(all, "{f = let {} ", " a}", 6, "in", "in");
    otherThan(all, "{f = if a ", " b else c}", 5, "then +", "then");
    otherThan(all, "{f = if a then b ", " c}", 7, "else +", "else");
    otherThan(all, "{f = case a ", " {}}", 5, "of +", "of");
    otherThan(all, "{f = case a of {b ", " c}}", 8, "->", "->");
    otherThan(all, "{f = (a ", "}", 5, ") , +", ")");
    otherThan(all, "{f = [a ", "}", 5, "] , +", "]");
    otherThan(all, "{f = ", " a", 3, "\\ let do case if", "");
    otherThan(all, "", " f = 1}", 0, "{", "{");
  }

  /** None of them but those can stand between; the one that is due can. */
  private static void otherThan(String[] all, String ahead, String behind, int lexeme, String others,
      String due) {
    for (String one : all) {
      if ((" " + others + " ").contains(" " + one + " ")) {
        continue;
      }
      String text = ahead + one + behind;
      LayoutDesk desk = Bench.desk(text);
      int answer = desk.read();
      BENCH.due("fault() of " + text, desk.fault(), 4);
      BENCH.due("read() of " + text, answer, -100 - desk.lexeme(lexeme, 0));
    }
    if (!due.isEmpty()) {
      LayoutDesk desk = Bench.desk(ahead + due + behind);
      desk.read();
      boolean stood = desk.fault() == 0;
      for (int i = 0; i < desk.count(2); i++) {
        stood |= desk.token(i) == lexeme;
      }
      BENCH.due(due + " can stand behind " + ahead, stood ? 1 : 0, 1);
    }
  }
}
