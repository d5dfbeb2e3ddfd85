/** Section 2 with promises 7, 8, 10, 11: what is put in, what can stand, FAULTS 4 and 5. */
public final class RuleTest {
  private static final Bench BENCH = new Bench();

  public static void main(String[] args) {
    blocks();
    parseErrors();
    ifs();
    steps();
    cannotStand();
    tooFarIn();
    letsAtTheEdge();
    letsThatAreTooFarIn();
    inBehindTheEdge();
    veryFarIn();
    reads();
    BENCH.end();
  }

  private static void dueTokens(String text, String tokens) {
    BENCH.dueTokens(text, tokens);
  }

  private static void dueFault(String text, int number, int place, String tokens) {
    BENCH.dueFault(text, number, place, tokens);
  }

  private static void blocks() {
    dueTokens("", "-10 -12");
    dueTokens(" \n -- a", "-10 -12");
    dueTokens("{}", "0 1");
    dueTokens("{;;}", "0 1 2 3");
    dueTokens("  {f=1;}", "0 1 2 3 4 5");
    dueTokens(";", "-10 0 -12");
    dueTokens("f = 1", "-10 0 1 2 -12");
    dueTokens("f = 1\ng = 2\n", "-10 0 1 2 -11 3 4 5 -12");
    dueTokens("  f = 1\n  g = 2", "-10 0 1 2 -11 3 4 5 -12");
    dueTokens("f = 1\n   + 2", "-10 0 1 2 3 4 -12");
    dueTokens("f = do\n a\n b\ng = 1", "-10 0 1 2 -10 3 -11 4 -12 -11 5 6 7 -12");
    dueTokens("f = do\ng = 1", "-10 0 1 2 -10 -12 -11 3 4 5 -12");
    dueTokens("f = do", "-10 0 1 2 -10 -12 -12");
    dueTokens("f = do a where", "-10 0 1 2 -10 3 -13 4 -10 -12 -12");
    dueTokens("f = do {a\n;b\n}", "-10 0 1 2 3 4 5 6 7 -12");
    dueTokens("{f = do\n a\n b\n}", "0 1 2 3 -10 4 -11 5 -12 6");
    dueTokens("{f = do\n   a\n   b\n ;g = 1}", "0 1 2 3 -10 4 -11 5 -12 6 7 8 9 10");
    dueTokens("{f = do\n a; g\n}", "0 1 2 3 -10 4 5 6 -12 7");
    dueTokens("f = do {\n  a;\nb }", "-10 0 1 2 3 4 5 6 7 -12");
  }

  private static void parseErrors() {
    dueTokens("f = let x = 1 in x", "-10 0 1 2 -10 3 4 5 -13 6 7 -12");
    dueTokens("f = let in x", "-10 0 1 2 -10 -13 3 4 -12");
    dueTokens("f = (do a)", "-10 0 1 2 3 -10 4 -13 5 -12");
    dueTokens("f = (case a of b -> c, d)", "-10 0 1 2 3 4 5 -10 6 7 8 -13 9 10 11 -12");
    dueTokens("f = let x = let y = 1 in y in x",
        "-10 0 1 2 -10 3 4 5 -10 6 7 8 -13 9 10 -13 11 12 -12");
    dueTokens("f = do a where b = 1", "-10 0 1 2 -10 3 -13 4 -10 5 6 7 -12 -12");
    dueTokens("f = case a of b -> c where d = 1",
        "-10 0 1 2 3 4 -10 5 6 7 8 -10 9 10 11 -12 -12 -12");
    dueTokens("f = case a of b -> do c where d = 1",
        "-10 0 1 2 3 4 -10 5 6 7 -10 8 -13 9 -10 10 11 12 -12 -12 -12");
    dueTokens("f = let x = 1\n        y = 2\n        in x",
        "-10 0 1 2 -10 3 4 5 -11 6 7 8 -11 -13 9 10 -12");
    dueTokens("f = [do a, do b]", "-10 0 1 2 3 -10 4 -13 5 6 -10 7 -13 8 -12");
  }

  private static void ifs() {
    dueTokens("f = if a then b else c", "-10 0 1 2 3 4 5 6 7 -12");
    dueTokens("f = do\n if a\n then b\n else c",
        "-10 0 1 2 -10 3 4 -11 5 6 -11 7 8 -12 -12");
    dueTokens("f = (if a ; then b ; else c)", "-10 0 1 2 3 4 5 6 7 8 9 10 11 -12");
    dueTokens("f = if do a ; then b else c", "-10 0 1 2 3 -10 4 5 -13 6 7 8 9 -12");
    dueTokens("f = do\n if a then if b then c else d\n else e",
        "-10 0 1 2 -10 3 4 5 6 7 8 9 10 11 -11 12 13 -12 -12");
    dueTokens("f = if a\n ; then b else c", "-10 0 1 2 3 4 5 6 7 8 -12");
    dueTokens("f = if a ;\n then b else c", "-10 0 1 2 3 4 5 6 7 8 -12");
    // The TOKEN behind this ; is one that is put in.
    dueFault("f = do\n if a ;\n then b else c", 4, 13, "-10 0 1 2 -10 3 4");
    dueFault("f = if a ;; then b else c", 4, 9, "-10 0 1 2 3");
    dueFault("f = if a ; b", 4, 9, "-10 0 1 2 3");
    dueFault("f = if a\ng = 1", 4, 9, "-10 0 1 2 3");
    dueFault("f = if a then b\ng = 1", 4, 16, "-10 0 1 2 3 4 5");
    dueFault("f = if a then b", 4, 15, "-10 0 1 2 3 4 5");
    dueFault("f = if a ; else b", 4, 9, "-10 0 1 2 3");
  }

  private static void steps() {
    dueTokens("f = do { a <- b ; C x (D 1) <- b ; (C) <- 1 ; 1 <- 1 }",
        "-10 0 1 2 3 4 5 6 7 8 9 10 11 12 13 14 15 16 17 18 19 20 21 22 23 24 25 26 -12");
    dueTokens("f = do { let { x = 1 } ; let { y = 1 } in y ; z }",
        "-10 0 1 2 3 4 5 6 7 8 9 10 11 12 13 14 15 16 17 18 19 20 21 -12");
    dueTokens("f = do let x = 1\n       y", "-10 0 1 2 -10 3 -10 4 5 6 -12 -11 7 -12 -12");
    dueTokens("f = do let x = 1 in x", "-10 0 1 2 -10 3 -10 4 5 6 -13 7 8 -12 -12");
    dueFault("f = do { a b <- c }", 4, 13, "-10 0 1 2 3 4 5");
    dueFault("f = do { (a b) <- c }", 4, 15, "-10 0 1 2 3 4 5 6 7");
    dueFault("f = do { () <- c }", 4, 12, "-10 0 1 2 3 4 5");
    dueFault("f = do { [a] <- c }", 4, 13, "-10 0 1 2 3 4 5 6");
    dueFault("f = do { (a, b) <- c }", 4, 16, "-10 0 1 2 3 4 5 6 7 8");
    dueFault("f = do { a + b <- c }", 4, 15, "-10 0 1 2 3 4 5 6");
    dueFault("f = do { C [a] <- c }", 4, 15, "-10 0 1 2 3 4 5 6 7");
    dueFault("f = do { a <- b <- c }", 4, 16, "-10 0 1 2 3 4 5 6");
    dueFault("f = do { let { } x }", 4, 17, "-10 0 1 2 3 4 5 6");
    dueFault("f = do { let { } + x }", 4, 17, "-10 0 1 2 3 4 5 6");
    dueFault("f = do { \\x -> y <- z }", 4, 17, "-10 0 1 2 3 4 5 6 7");
    // By columns all blocks are ended ahead of the <-, before it is a FAULT.
    dueFault("f = do a b <- c", 4, 11, "-10 0 1 2 -10 3 4 -13 -13");
    dueFault("f = do let x = 1 <- c", 4, 17, "-10 0 1 2 -10 3 -10 4 5 6 -13 -13 -13");
  }

  private static void cannotStand() {
    dueFault("f", 4, 1, "-10 0");
    dueFault("f =", 4, 3, "-10 0 1");
    dueFault("f = 1 )", 4, 6, "-10 0 1 2 -13");
    dueFault("f = (1", 4, 6, "-10 0 1 2 3");
    dueFault("f = (1\ng = 2", 4, 7, "-10 0 1 2 3");
    dueFault("f = (do\n  (1\n g", 4, 14, "-10 0 1 2 3 -10 4 5");
    dueFault("1 = f", 4, 0, "-10 -13");
    dueFault("F = 1", 4, 0, "-10 -13");
    dueFault("f [a] = 1", 4, 2, "-10 0");
    dueFault("f (a b) = 1", 4, 5, "-10 0 1 2");
    dueFault("f () = 1", 4, 3, "-10 0 1");
    dueFault("f = a = b", 4, 6, "-10 0 1 2 -13");
    dueFault("f = {a}", 4, 4, "-10 0 1");
    dueFault("f = a {", 4, 6, "-10 0 1 2");
    dueFault("f = 1}", 4, 5, "-10 0 1 2");
    dueFault("}", 4, 0, "-10");
    dueFault("f = do {let x = 1}", 4, 17, "-10 0 1 2 3 4 -10 5 6 7");
    dueFault("{f = (}", 4, 6, "0 1 2 3");
    dueFault("{f = 1", 4, 6, "0 1 2 3");
    dueFault("{f = 1} g", 4, 8, "0 1 2 3 4");
    dueFault("{f = 1} }", 4, 8, "0 1 2 3 4");
    dueFault("{f = 1} {", 4, 8, "0 1 2 3 4");
    // The end has the INDENT 0, which is as the CONTEXT of a block with braces.
    dueFault("{f = do", 4, 7, "0 1 2 3 -10 -12 -11");
    dueFault("{f = do ", 4, 8, "0 1 2 3 -10 -12 -11");
    dueFault("  f = 1\n g = 2", 4, 9, "-10 0 1 2 -12");
    dueFault("f = - 1", 4, 4, "-10 0 1");
    dueFault("f = a +", 4, 7, "-10 0 1 2 3");
    dueFault("f = a \\x -> x", 4, 6, "-10 0 1 2 -13");
    dueFault("f = do {a} b", 4, 11, "-10 0 1 2 3 4 5 -13");
    dueFault("f = \\ -> x", 4, 6, "-10 0 1 2");
    dueFault("f = \\x", 4, 6, "-10 0 1 2 3");
    dueFault("f = (a,)", 4, 7, "-10 0 1 2 3 4");
    dueFault("f = [,]", 4, 5, "-10 0 1 2");
    dueFault("f = (a]", 4, 6, "-10 0 1 2 3");
    dueFault("f = case a b", 4, 12, "-10 0 1 2 3 4");
    dueFault("f = case a of b c -> d", 4, 16, "-10 0 1 2 3 4 -10 5");
    dueFault("f = case a of {b c -> d}", 4, 17, "-10 0 1 2 3 4 5 6");
    dueFault("f = let {x = 1} x", 4, 16, "-10 0 1 2 3 4 5 6 7");
    dueFault("f = (a where b = 1)", 4, 7, "-10 0 1 2 3");
    dueFault("f = a where {} where {}", 4, 15, "-10 0 1 2 3 4 5 -13");
  }

  private static String times(int n, String part) {
    return part.repeat(n);
  }

  private static int answer(String text) {
    LayoutDesk x = Bench.desk(text);
    int answer = x.read();
    if (answer < 0) {
      BENCH.due("fault() of " + text, x.fault(), 5);
    }
    return answer > 0 ? 0 : answer;
  }

  /** The block of the program is open around all of these. */
  private static void tooFarIn() {
    BENCH.due("29 (", answer("f = " + times(29, "(") + "a" + times(29, ")")), 0);
    BENCH.due("30 (", answer("f = " + times(30, "(") + "a" + times(30, ")")), -133);
    BENCH.due("29 [", answer("f = " + times(29, "[") + times(29, "]")), 0);
    BENCH.due("30 [", answer("f = " + times(30, "[") + times(30, "]")), -133);
    BENCH.due("29 ( of patterns", answer("f " + times(29, "(") + "a" + times(29, ")") + "=1"), 0);
    BENCH.due("30 ( of patterns", answer("f " + times(30, "(") + "a" + times(30, ")") + "=1"), -131);
    BENCH.due("29 \\", answer("f = " + times(29, "\\x->") + "a"), 0);
    BENCH.due("30 \\", answer("f = " + times(30, "\\x->") + "a"), -100 - 4 - 29 * 4);
    BENCH.due("29 if", answer("f = " + times(29, "if a then b else ") + "a"), 0);
    BENCH.due("30 if", answer("f = " + times(30, "if a then b else ") + "a"), -100 - 4 - 29 * 17);
    BENCH.due("14 do and (", answer("f = " + times(14, "do ") + "(a)"), 0);
    BENCH.due("14 do and 2 (", answer("f = " + times(14, "do ") + "((a))"), -100 - 4 - 14 * 3 - 1);
    BENCH.due("15 do: the block of the last is one too many",
        answer("f = " + times(15, "do ") + "a"), -100 - 4 - 15 * 3);
    BENCH.due("15 do, then the end", answer("f = " + times(15, "do ")), -100 - 4 - 15 * 3);
    BENCH.due("15 do with braces", answer("f = " + times(15, "do{") + "a"), -100 - 4 - 14 * 3 - 2);
    BENCH.due("( and 14 do", answer("f = (" + times(14, "do ") + "a)"), 0);
    BENCH.due("( and 15 do", answer("f = (" + times(15, "do ") + "a)"), -100 - 5 - 14 * 3);
    BENCH.due("14 let", answer("f = " + times(14, "let x = ") + "1" + times(14, " in x")), 0);
    BENCH.due("15 let", answer("f = " + times(15, "let x = ") + "1"), -100 - 4 - 14 * 8 - 4);
    BENCH.due("14 case", answer("f = " + times(14, "case a of b -> ") + "1"), 0);
    BENCH.due("15 case", answer("f = " + times(15, "case a of b -> ") + "1"), -100 - 4 - 14 * 15 - 10);
    BENCH.due("29 where", answer(times(29, "f = a where ") + "f = a"), 0);
    BENCH.due("30 where", answer(times(30, "f = a where ") + "f = a"), -100 - 30 * 12);
    BENCH.due("those that were ended do not count", answer("f = " + times(60, "(a) ")), 0);
    BENCH.due("ifs by turns", answer("f = " + times(40, "do {if a then b else \\c -> d} + ") + "1"), 0);
    dueFault("f = " + times(13, "do ") + "((((a", 5, 4 + 13 * 3 + 3,
        "-10 0 1" + pairs(2, 13) + " 15 16 17");
    dueFault("f = " + times(15, "do ") + "a", 5, 4 + 15 * 3,
        "-10 0 1" + pairs(2, 14) + " 16");
    dueFault("f = (" + times(15, "do ") + "a)", 5, 5 + 14 * 3, "-10 0 1 2" + pairs(3, 14));
    dueFault("f = " + times(28, "[") + "\\x -> \\y -> z", 5, 4 + 28 + 6,
        "-10 0 1" + run(2, 28) + " 30 31 32");
  }

  private static String pairs(int first, int n) {
    StringBuilder all = new StringBuilder();
    for (int i = first; i < first + n; i++) {
      all.append(' ').append(i).append(" -10");
    }
    return all.toString();
  }

  private static String run(int first, int n) {
    StringBuilder all = new StringBuilder();
    for (int i = first; i < first + n; i++) {
      all.append(' ').append(i);
    }
    return all.toString();
  }

  /** A let in a step is an operand only if in comes behind its block. */
  private static void letsAtTheEdge() {
    // The program's block, 26 of (, do and its block: 29 are open around the let.
    String around = "f = " + times(26, "(") + "do ";
    BENCH.due("LETTING, its block the 30th", answer(around + "{let {x = 1}}" + times(26, ")")), 0);
    BENCH.due("LETTING, in its block a 31st",
        answer(around + "{let {x = (1)}}"), -100 - 33 - 10);
    BENCH.due("LET, its block the 31st",
        answer(around + "{let {x = 1} in x}" + times(26, ")")), -100 - 33 - 5);
    dueFault(around + "{let {x = 1} in x}", 5, 33 + 5, "-10 0 1" + run(2, 29));
    BENCH.due("one less around: LET",
        answer(around.replaceFirst("\\(", "") + "{let {x = 1} in x}" + times(25, ")")), 0);
    BENCH.due("one less around: LET, and ( in its block",
        answer(around.replaceFirst("\\(", "") + "{let {x = (1)} in x}" + times(25, ")")), -142);
    BENCH.due("one less around: LET, and ( behind in",
        answer(around.replaceFirst("\\(", "") + "{let {x = 1} in (x)}" + times(25, ")")), 0);
    BENCH.due("one less around: LET, and (( behind in",
        answer(around.replaceFirst("\\(", "") + "{let {x = 1} in ((x))}"), -100 - 32 - 17);
  }

  /** The program's block, so many of (, do and its block are open around the let. */
  private static void letsThatAreTooFarIn() {
    dueFault("f = " + times(27, "(") + "do let b = 1 in b" + times(27, ")"), 5, 34,
        "-10 0 1" + run(2, 27) + " 29 -10");
    dueFault("f = " + times(27, "(") + "do a; let {b = 1} in b", 5, 37,
        "-10 0 1" + run(2, 27) + " 29 -10 30 31");
    dueFault("f = " + times(27, "(") + "do\n   a\n   let b = 1\n   b", 5, 46,
        "-10 0 1" + run(2, 27) + " 29 -10 30 -11 31");
    dueFault("f = " + times(27, "(") + "do\n   a\n   let b = 1\n    in b", 5, 42,
        "-10 0 1" + run(2, 27) + " 29 -10 30 -11");
    // No in comes behind these blocks: the first of them is the 31st, and it ends with the TEXT.
    dueFault("f = " + times(27, "(") + "do let b = 1" + times(27, ")"), 5, 38,
        "-10 0 1" + run(2, 27) + " 29 -10 30");
    dueFault("f = " + times(27, "(") + "do let", 5, 37, "-10 0 1" + run(2, 27) + " 29 -10 30");
    // This in comes behind an empty block.
    dueFault("f = " + times(27, "(") + "do let in b", 5, 34, "-10 0 1" + run(2, 27) + " 29 -10");
    // The ; that is put in ahead of the { of the 31st block cannot stand.
    dueFault("f = " + times(27, "(") + "do let\n{b = 1}", 4, 38, "-10 0 1" + run(2, 27) + " 29 -10 30");
    BENCH.due("28 (, do: its block", answer("f = " + times(28, "(") + "do let b = 1 in b"), -135);
    BENCH.due("29 (, do", answer("f = " + times(29, "(") + "do let b = 1 in b"), -133);
    BENCH.due("a second step: let",
        answer("f = " + times(27, "(") + "do {a; let {} in b}"), -100 - 38);
  }

  private static int tooFarIn(String ahead, int most, String behind) {
    int answer = answer(ahead + times(40, "(") + "1" + times(40, ")") + behind);
    BENCH.due("one less: " + ahead, answer(ahead + times(most, "(") + "1" + times(most, ")") + behind), 0);
    return -100 - answer - ahead.length();
  }

  /** What in makes of the lets, though it stands behind what is too far in. */
  private static void inBehindTheEdge() {
    BENCH.due("let", tooFarIn("f = do let b = ", 26, ""), 26);
    BENCH.due("let, in", tooFarIn("f = do let b = ", 25, " in b"), 25);
    BENCH.due("let, in, another line", tooFarIn("f = do\n  let b = ", 25, "\n   in b"), 25);
    BENCH.due("let with braces", tooFarIn("f = do {let {b = ", 26, "}}"), 26);
    BENCH.due("let with braces, in", tooFarIn("f = do {let {b = ", 25, "} in b}"), 25);
    BENCH.due("in of another step", tooFarIn("f = do {let {b = ", 26, "}; let {} in b}"), 26);
    BENCH.due("two lets", tooFarIn("f = do let a = do let b = ", 23, ""), 23);
    BENCH.due("two lets, in", tooFarIn("f = do let a = do let b = ", 22, " in b"), 22);
    BENCH.due("two lets, in, in", tooFarIn("f = do let a = do let b = ", 21, " in b in a"), 21);
    BENCH.due("in of the outer let alone",
        tooFarIn("f = do {let {a = do {let {b = ", 22, "}; a}} in a}"), 22);
    BENCH.due("behind in", tooFarIn("f = do let b = 1 in ", 26, ""), 26);
    BENCH.due("behind the first in", tooFarIn("f = do let a = do let b = 1 in ", 23, ""), 23);
    BENCH.due("behind the first in, in", tooFarIn("f = do let a = do let b = 1 in ", 22, " in a"), 22);
    BENCH.due("patterns", tooFarIn("f = do let b ", 25, " = 1 in b"), 25);
    // A FAULT 4 ahead of in: in does not come behind the block; behind it: it came.
    String brackets = times(40, "(") + "1" + times(40, ")");
    BENCH.due("FAULT 4 ahead of in", answer("f = do let b = " + brackets + "{ in b"), -115 - 26);
    BENCH.due("FAULT 4 at the end", answer("f = do let b = " + times(40, "(") + " in b"), -115 - 26);
    BENCH.due("FAULT 4 in the block", answer("f = do {let {b = " + brackets + " in b}"), -117 - 26);
    BENCH.due("FAULT 4 behind in", answer("f = do let b = " + brackets + " in ="), -115 - 25);
  }

  /** As far in as 800 LEXEMES can be. */
  private static void veryFarIn() {
    BENCH.due("let", tooFar(times(390, "("), times(390, ")")), 26);
    BENCH.due("let, in", tooFar(times(390, "("), times(390, ")") + " in b"), 25);
    BENCH.due("if", answer("f = " + times(797, "if ")), -104 - 29 * 3);
    BENCH.due("if in a let, in", answer("f = do let b = "
        + times(130, "if ") + "1" + times(130, " then 1 else 1") + " in b"), -115 - 25 * 3);
    BENCH.due("if in a let", answer("f = do let b = "
        + times(130, "if ") + "1" + times(130, " then 1 else 1")), -115 - 26 * 3);
    BENCH.due("do", answer("f = " + times(798, "do ")), -104 - 15 * 3);
    BENCH.due("[", answer("f = " + times(798, "[")), -104 - 29);
    BENCH.due("( of patterns", answer("f " + times(799, "(")), -102 - 29);
    BENCH.due("case", answer("f = " + times(590, "case ")), -104 - 29 * 5);
    BENCH.due("where", answer(times(200, "f = a where ")), -100 - 30 * 12);
    // Each level has do, its block, and the block of let: 9 levels are 27, and do, its block 29, 30.
    BENCH.due("lets in steps", answer("f = " + times(160, "do let b = ") + "1"), -104 - 9 * 11 - 7);
    // With in behind each of them, let counts: 7 levels are 28, and do, its block 30, let 31.
    BENCH.due("lets in steps, in",
        answer("f = " + times(130, "do let b = ") + "1" + times(130, " in b")), -104 - 7 * 11 - 3);
    // The in of the innermost alone, which is too far in itself.
    BENCH.due("lets in steps, one in",
        answer("f = " + times(130, "do let b = ") + "1 in b"), -104 - 9 * 11 - 7);
  }

  private static int tooFar(String inside, String behind) {
    String ahead = "f = do let b = ";
    return -100 - answer(ahead + inside + "1" + behind) - ahead.length();
  }

  private static void reads() {
    LayoutDesk x = Bench.desk("f = 1");
    for (int k = 1; k <= 30; k++) {
      BENCH.due("read() " + k, x.read(), k % 2 == 1 ? 3 : -105);
      BENCH.due("fault()", x.fault(), k % 2 == 1 ? 0 : 4);
      BENCH.due("count(4)", x.count(4), k);
      BENCH.due("count(3)", x.count(3), 3);
      x.clear();
      Bench.put(x, k % 2 == 1 ? "g = (" : "f = 1");
    }
    x.clear();
    Bench.put(x, "$");
    BENCH.due("read() 31", x.read(), LayoutDesk.FULL);
    BENCH.due("fault() is of the one before", x.fault(), 4);
    BENCH.due("count(4)", x.count(4), 30);
    BENCH.due("count(1)", x.count(1), 3);
    BENCH.due("count(2)", x.count(2), 4);
    BENCH.due("count(-1)", x.count(-1), LayoutDesk.BAD);
    BENCH.due("count(5)", x.count(5), LayoutDesk.BAD);
    BENCH.due("write(0) still goes", x.write(0), 9);
    BENCH.due("count(0)", x.count(0), 9);
  }
}
