/**
 * "5 more than 30 open within one another: of ( and [, blocks, and operands from \, let, if, case, do
 * on (at the LEXEME that would be; of a block the one behind its word)". The PROGRAM's block is open
 * around all of them.
 */
public final class LimitEdgeTest {
  private static final Bench BENCH = new Bench();
  private static final int MOST_OPEN = 30;

  public static void main(String[] args) {
    brackets();
    operands();
    blocks();
    lettings();
    patterns();
    parts();
    whatHasEnded();
    eachByItself();
    tokensUpToIt();
    firstOfFaults();
    behindManyOthers();
    wholeAtTheLimit();
    BENCH.end();
  }

  /**
   * The expression, in which X stands ahead of each LEXEME that opens something, is put into so many
   * ( that the deepest of it is the 30th, and then into more and more of them: the FAULT is at the
   * first of what is marked that is too far in. The digits behind X tell how many are open within the
   * expression then, that one counted in.
   */
  private static void dueAtEach(String marked, int deepest) {
    StringBuilder text = new StringBuilder();
    int[] places = new int[100];
    int[] depths = new int[100];
    int marks = 0;
    for (int k = 0; k < marked.length(); k++) {
      if (marked.charAt(k) == 'X') {
        places[marks] = text.length();
        depths[marks] = marked.charAt(k + 1) - '0';
        marks++;
        k++;
      } else {
        text.append(marked.charAt(k));
      }
    }
    for (int around = 0; around < MOST_OPEN; around++) {
      String ahead = "f = " + "(".repeat(around);
      int first = -1;
      for (int m = marks - 1; m >= 0; m--) {
        if (1 + around + depths[m] > MOST_OPEN) {
          first = ahead.length() + places[m];
        }
      }
      BENCH.due("the limit of " + marked, first < 0 ? 1 : 0, 1 + around + deepest <= MOST_OPEN ? 1 : 0);
      dueAnswer(ahead + text + ")".repeat(around), first);
    }
  }

  /** FAULT 5 at that place; -1: no FAULT. */
  private static void dueAnswer(String text, int place) {
    LayoutDesk desk = Bench.desk(text);
    int answer = desk.read();
    BENCH.due("fault() of " + text, desk.fault(), place < 0 ? 0 : 5);
    BENCH.due("read() of " + text, answer, place < 0 ? desk.count(3) : -100 - place);
  }

  private static void brackets() {
    dueAtEach("X1()", 1);
    dueAtEach("X1(a)", 1);
    dueAtEach("X1(a, b)", 1);
    dueAtEach("X1[]", 1);
    dueAtEach("X1[a]", 1);
    dueAtEach("X1[a, X2(b), X2[c]]", 2);
    dueAtEach("X1(X2[X3(X4[a])])", 4);
    dueAtEach("a X1(b) X1[c] + X1(d)", 1);
  }

  private static void operands() {
    dueAtEach("X1\\a -> b", 1);
    dueAtEach("X1\\a -> X2\\b -> c", 2);
    dueAtEach("X1if a then b else c", 1);
    dueAtEach("X1if X2if a then b else c then X2if d then e else f else X2if g then h else i", 2);
    dueAtEach("X1let X2{} in a", 2);
    dueAtEach("X1let X2{} in X2let X3{} in a", 3);
    dueAtEach("X1case a of X2{}", 2);
    dueAtEach("X1case X2case a of X3{} of X2{}", 3);
    dueAtEach("X1do X2{}", 2);
    dueAtEach("X1do X2{X3do X4{}}", 4);
    dueAtEach("a + X1\\b -> c + X2\\d -> e", 2);
  }

  /** With braces and without; the end behind a word is a block's, too. */
  private static void blocks() {
    dueAtEach("X1do X2a", 2);
    dueAtEach("X1do X2X3do X4a", 4);
    dueAtEach("X1let X2a = 1 in b", 2);
    dueAtEach("X1let X2in b", 2);
    dueAtEach("X1case a of X2b -> c", 2);
    dueAtEach("X1let X2{a = b where X3{}} in c", 3);
    dueAtEach("X1let X2a = b where X3d = e in c", 3);
    dueAtEach("X1case a of X2{b -> c where X3{}}", 3);
    dueAtEach("X1case a of X2{b -> c where X3{d = e where X4{}}}", 4);
    for (String word : new String[] {"do", "case a of"}) {
      String ahead = "f = " + "\\x -> ".repeat(27);
      dueAnswer(ahead + word, -1);
      dueAnswer(ahead + "\\x -> " + word, ahead.length() + 6 + word.length());
      dueAnswer(ahead + "\\x -> " + word + " \n ", ahead.length() + 6 + word.length() + 3);
      dueAnswer(ahead + "\\x -> \\x -> " + word, ahead.length() + 12);
    }
    // The blocks of where are 29 within the PROGRAM's, and 30.
    dueAnswer("f = a where ".repeat(29) + "f = a", -1);
    dueAnswer("f = a where ".repeat(29), -1);
    dueAnswer("f = a where ".repeat(30) + "f = a", 30 * 12);
    dueAnswer("f = a where ".repeat(30), 30 * 12);
    dueAnswer("f = a where {".repeat(29) + "}".repeat(29), -1);
    dueAnswer("f = a where {".repeat(30) + "}".repeat(30), 30 * 13 - 1);
  }

  /** A let in a step counts if in comes behind its block, from let on. */
  private static void lettings() {
    dueAtEach("X1do X2{let X3{}}", 3);
    dueAtEach("X1do X2{X3let X4{} in a}", 4);
    dueAtEach("X1do X2{let X3{a = X4(b)}; c}", 4);
    dueAtEach("X1do X2{X3let X4{a = X5(b)} in c}", 5);
    dueAtEach("X1do X2{X3let X4{} in X4(a)}", 4);
    dueAtEach("X1do X2{let X3{}; X3let X4{} in a; let X3{}}", 4);
    dueAtEach("X1do X2let X3a = 1", 3);
    dueAtEach("X1do X2X3let X4a = 1 in b", 4);
    dueAtEach("X1do X2{a <- X3let X4{} in b}", 4);
    dueAtEach("X1do X2{X3let X4{a = X5do X6{let X7{}}} in b}", 7);
    dueAtEach("X1do X2{let X3{a = X4do X5{X6let X7{} in b}}}", 7);
  }

  private static void patterns() {
    dueAtEach("X1\\X2(a) -> b", 2);
    dueAtEach("X1\\a X2(X3(B c)) -> d", 3);
    dueAtEach("X1case a of X2{X3(b) -> c}", 3);
    dueAtEach("X1case a of X2{B X3(C X4(d)) -> e}", 4);
    dueAtEach("X1do X2{X3(a) <- b}", 3);
    dueAtEach("X1let X2{a X3(b) = c} in d", 3);
    dueAnswer("{f " + "(".repeat(29) + "a" + ")".repeat(29) + " = 1}", -1);
    dueAnswer("{f " + "(".repeat(30) + "a" + ")".repeat(30) + " = 1}", 3 + 29);
  }

  /** What is open in each part of an operand. */
  private static void parts() {
    dueAtEach("X1if X2(a) then X2(b) else X2(c)", 2);
    dueAtEach("X1\\a -> X2(b)", 2);
    dueAtEach("X1case X2(a) of X2{b -> X3(c)}", 3);
    dueAtEach("X1let X2{a = X3(b)} in X2(c)", 3);
    dueAtEach("X1do X2{X3(a); b <- X3(c)}", 3);
    // An operand is open to the end of its last expression: + d is in it.
    dueAtEach("X1\\a -> b + X2(c)", 2);
    dueAtEach("X1if a then b else c + X2(d)", 2);
    dueAtEach("X1let X2{} in a + X2(b)", 2);
    // do and case end with their blocks.
    dueAtEach("X1do X2{a} + X1(b)", 2);
    dueAtEach("X1case a of X2{} + X1(b)", 2);
  }

  /** Each of these 40 times one behind the other, in lists that are deep already. */
  private static void whatHasEnded() {
    String[] all = {"()", "(a)", "(a, b)", "[]", "[a]", "(\\a -> b)", "(if a then b else c)",
      "(let {} in a)", "(let a = 1 in a)", "(case a of {})", "(case a of b -> c)", "(do {})", "(do a)",
      "(do let in a)", "(do {let {} in a})", "(do {let {}})", "(do)", "(\\(a) -> b)", "(do {(a) <- b})"};
    for (String one : all) {
      String ahead = "f = " + "[".repeat(24) + one;
      dueAnswer(ahead + (" " + one).repeat(39) + "]".repeat(24), -1);
      dueAnswer(ahead + ("," + one).repeat(39) + "]".repeat(24), -1);
      dueAnswer(ahead + (" + " + one).repeat(39) + "]".repeat(24), -1);
    }
    dueAnswer("f = " + "do {} + ".repeat(60) + "a", -1);
    dueAnswer("f = " + "case a of {} + ".repeat(60) + "a", -1);
    dueAnswer("f = do\n" + " let {} in a\n".repeat(60), -1);
    dueAnswer("f = do\n" + " let a = 1\n".repeat(60), -1);
    dueAnswer("f = do\n" + " do\n  a\n".repeat(60), -1);
    dueAnswer("f = do\n" + " do\n".repeat(60), -1);
    dueAnswer("f = do\n" + " \\a -> b\n".repeat(60), -1);
    dueAnswer("f = do\n" + " if a then b else c\n".repeat(60), -1);
    dueAnswer("f " + "(a) ".repeat(60) + "= 1", -1);
    dueAnswer("f = \\" + "(a) ".repeat(60) + "-> 1", -1);
    dueAnswer("f = case a of\n" + " B (c) (D e) -> f where\n".repeat(60), -1);
    dueAnswer("f = a where g = b\n".repeat(60), -1);
    dueAnswer("f = \\a -> b\n".repeat(60), -1);
  }

  /** 29 and 30 of each alone. */
  private static void eachByItself() {
    eachByItself("(", "a", ")", 1);
    eachByItself("[", "", "]", 1);
    eachByItself("\\x -> ", "a", "", 1);
    eachByItself("if a then b else ", "c", "", 1);
    eachByItself("if ", "a", " then b else c", 1);
    eachByItself("if a then ", "b", " else c", 1);
    eachByItself("let {} in ", "a", "", 1);
    eachByItself("do {", "a", "}", 2);
    eachByItself("let {x = ", "a", "} in b", 2);
    eachByItself("case a of {b -> ", "c", "}", 2);
    eachByItself("do {let {x = ", "a", "}}", 3);
    eachByItself("do {let {x = ", "a", "} in b}", 4);
    // The block of the innermost is open within all of these.
    dueAnswer("f = " + "case ".repeat(28) + "a" + " of {}".repeat(28), -1);
    dueAnswer("f = " + "case ".repeat(29) + "a" + " of {}".repeat(29), 4 + 29 * 5 + 5);
  }

  /** Each opens so many; all of those that fit are no FAULT, and one more is. */
  private static void eachByItself(String opener, String inside, String closer, int opens) {
    int most = (MOST_OPEN - 1) / opens;
    // The block of the innermost is one more, though it is ended ahead of in.
    if (opener.equals("let {} in ")) {
      most--;
    }
    String text = "f = " + opener.repeat(most) + inside + closer.repeat(most);
    dueAnswer(text, -1);
    String more = "f = " + opener.repeat(most + 1) + inside + closer.repeat(most + 1);
    LayoutDesk desk = Bench.desk(more);
    int place = -100 - desk.read();
    BENCH.due("fault() of " + more, desk.fault(), 5);
    int last = 4 + opener.length() * most;
    BENCH.due("the FAULT is in the last of " + more,
        place >= last && place < last + opener.length() ? 1 : 0, 1);
  }

  private static String run(int first, int n) {
    StringBuilder all = new StringBuilder();
    for (int i = first; i < first + n; i++) {
      all.append(' ').append(i);
    }
    return all.toString();
  }

  /** "those that could stand, up to its FAULT": not the one that would be the 31st. */
  private static void tokensUpToIt() {
    BENCH.dueFault("f = " + "(".repeat(30), 5, 33, "-10 0 1" + run(2, 29));
    BENCH.dueFault("f = " + "(".repeat(28) + "do {", 5, 35, "-10 0 1" + run(2, 29));
    BENCH.dueFault("f = " + "(".repeat(28) + "do a", 5, 35, "-10 0 1" + run(2, 29));
    BENCH.dueFault("f = " + "(".repeat(28) + "do", 5, 34, "-10 0 1" + run(2, 29));
    BENCH.dueFault("f = " + "(".repeat(29) + "do a", 5, 33, "-10 0 1" + run(2, 29));
    BENCH.dueFault("f = " + "(".repeat(29) + "\\a -> b", 5, 33, "-10 0 1" + run(2, 29));
    BENCH.dueFault("f = " + "(".repeat(26) + "do let a = 1 in b", 5, 37,
        "-10 0 1" + run(2, 27) + " -10 29");
    BENCH.dueFault("f = " + "(".repeat(27) + "do let a = 1 in b", 5, 34,
        "-10 0 1" + run(2, 28) + " -10");
  }

  /** The first of the FAULTS of section 2 is told. */
  private static void firstOfFaults() {
    BENCH.dueFault("f = " + "(".repeat(30) + ")", 5, 33, "-10 0 1" + run(2, 29));
    BENCH.dueFault("f = " + "(".repeat(29) + ", (", 4, 33, "-10 0 1" + run(2, 29));
    BENCH.dueFault("f = " + "(".repeat(29) + "= (", 4, 33, "-10 0 1" + run(2, 29));
    BENCH.dueFault("f = ) " + "(".repeat(40), 4, 4, "-10 0 1");
    BENCH.dueFault("f = " + "(".repeat(29) + "a" + ")".repeat(30), 4, 4 + 29 + 1 + 29,
        "-10 0 1" + run(2, 29 + 1 + 29) + " -13");
    // What cannot stand opens nothing.
    BENCH.dueFault("f = " + "(".repeat(29) + "a \\", 4, 35, "-10 0 1" + run(2, 30));
    BENCH.dueFault("f = " + "(".repeat(29) + "a {", 4, 35, "-10 0 1" + run(2, 30));
    BENCH.dueFault("f " + "(".repeat(29) + "[", 4, 31, "-10 0" + run(1, 29));
  }

  /** As many as 800 LEXEMES can open one behind the other, then 30 and 31 within one another. */
  private static void behindManyOthers() {
    String many = "{f = do\n" + "do\n".repeat(700);
    dueAnswer(many + "(".repeat(27) + "a" + ")".repeat(27) + "\n", many.length() + 27 + 1 + 27 + 1, 4);
    dueAnswer(many + "(".repeat(28) + "a" + ")".repeat(28) + "\n", many.length() + 27, 5);
    dueAnswer(many + "do let b = " + "(".repeat(22) + "a" + ")".repeat(22), many.length() + 11 + 45, 4);
    dueAnswer(many + "do let b = " + "(".repeat(24) + "a" + ")".repeat(24) + " in b", many.length() + 11 + 23, 5);
  }

  private static void dueAnswer(String text, int place, int number) {
    LayoutDesk desk = Bench.desk(text);
    BENCH.due("read() of " + text, desk.read(), -100 - place);
    BENCH.due("fault() of " + text, desk.fault(), number);
  }

  /** 30 open, of each thing that is counted, written in both forms and read again. */
  private static void wholeAtTheLimit() {
    String[] openers = {"(", "[", "\\a -> ", "if b then c else ", "let {} in ", "let {d = ", "case ",
      "case e of {f -> ", "do {", "do {g <- ", "do {let {h = ", "do {let {i = "};
    String[] closers = {")", "]", "", "", "", "} in j", " of {}", "}", "}", "}", "}}", "} in k}"};
    int[] opens = {1, 1, 1, 1, 1, 2, 1, 2, 2, 2, 3, 4};
    StringBuilder text = new StringBuilder("x");
    int open = 1;
    for (int k = 0; k < openers.length; k++) {
      text.insert(0, openers[k]).append(closers[k]);
      open += opens[k];
    }
    String around = "(".repeat(MOST_OPEN - open);
    String whole = "f = " + around + text + around.replace('(', ')');
    LayoutDesk desk = Bench.desk(whole);
    int nodes = desk.read();
    BENCH.due("30 open: fault()", desk.fault(), 0);
    long digest = desk.digest();
    for (int form = 0; form < 4; form++) {
      BENCH.due("write() of 30 open", desk.write(form % 2) > 0 ? 1 : 0, 1);
      BENCH.due("read() of 30 open", desk.read(), nodes);
      BENCH.due("digest() of 30 open", desk.digest(), digest);
    }
    LayoutDesk more = Bench.desk("f = (" + around + text + around.replace('(', ')') + ")");
    more.read();
    BENCH.due("31 open: fault()", more.fault(), 5);
  }
}
