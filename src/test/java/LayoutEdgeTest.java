/** THE RULE of section 2, sentence by sentence: OPENINGS, INDENTS, braces, the end, parse-error(t). */
public final class LayoutEdgeTest {
  private static final Bench BENCH = new Bench();

  public static void main(String[] args) {
    openingAboveContext();
    openingNotAboveContext();
    openingInBraces();
    openingOfTheEnd();
    indentAsContext();
    indentBelowContext();
    indentAboveContext();
    indentWithoutContext();
    closingBrace();
    openingBrace();
    theEnd();
    parseError();
    parseErrorTakesOff();
    noParseError();
    placesOfFaults();
    BENCH.end();
  }

  private static void dueTokens(String text, String tokens) {
    BENCH.dueTokens(text, tokens);
  }

  private static void dueFault(String text, int place, String tokens) {
    BENCH.dueFault(text, 4, place, tokens);
  }

  /** "if n is above m (above 0 with none): { is put in, n comes on top". */
  private static void openingAboveContext() {
    dueTokens("f = 1", "-10 0 1 2 -12");
    dueTokens("     f = 1", "-10 0 1 2 -12");
    dueTokens("f = do\n a", "-10 0 1 2 -10 3 -12 -12");
    dueTokens("f = do a", "-10 0 1 2 -10 3 -12 -12");
    dueTokens("  f = do\n   a\n  g = 1", "-10 0 1 2 -10 3 -12 -11 4 5 6 -12");
    dueTokens("f = a where\n b = 1\n c = 2", "-10 0 1 2 3 -10 4 5 6 -11 7 8 9 -12 -12");
    dueTokens("f = case a of\n b -> 1\n c -> 2", "-10 0 1 2 3 4 -10 5 6 7 -11 8 9 10 -12 -12");
    dueTokens("f = let\n b = 1\n c = 2\n in 3", "-10 0 1 2 -10 3 4 5 -11 6 7 8 -11 -13 9 10 -12");
    // n is on top then: what is as far in is parted, though the block around stands further out.
    dueTokens("f = do\n    do\n     a\n     b\n    c",
        "-10 0 1 2 -10 3 -10 4 -11 5 -12 -11 6 -12 -12");
  }

  /** "else { and } are put in, and the LEXEME (or the end) has the INDENT n". */
  private static void openingNotAboveContext() {
    dueTokens("f = do\ng = 1", "-10 0 1 2 -10 -12 -11 3 4 5 -12");
    dueTokens("f = a where\ng = 1", "-10 0 1 2 3 -10 -12 -11 4 5 6 -12");
    dueTokens("f = case a of\ng = 1", "-10 0 1 2 3 4 -10 -12 -11 5 6 7 -12");
    dueTokens("f = do\n   let\n   a", "-10 0 1 2 -10 3 -10 -12 -11 4 -12 -12");
    dueTokens("f = do\n   do\n   do\n   a", "-10 0 1 2 -10 3 -10 -12 -11 4 -10 -12 -11 5 -12 -12");
    // The INDENT is below the CONTEXT on top, and as the one below it.
    dueTokens("f = do\n   do\ng = 1", "-10 0 1 2 -10 3 -10 -12 -12 -11 4 5 6 -12");
    // .. and above the one below it: + goes on with what is there.
    dueTokens("f = do\n   do\n  + a", "-10 0 1 2 -10 3 -10 -12 -12 4 5 -12");
    dueFault("f = do\n   do\n  a", 15, "-10 0 1 2 -10 3 -10 -12 -12 -13");
    // The CONTEXT of the program is taken off, too.
    dueFault("  f = do\n g", 10, "-10 0 1 2 -10 -12 -12");
    // The ; that the INDENT puts in cannot stand behind let { }.
    dueFault("f = let\nx = 1", 8, "-10 0 1 2 -10 -12");
  }

  /** A block with braces is the CONTEXT 0, which each COLUMN is above. */
  private static void openingInBraces() {
    dueTokens("{f = do\n a\n}", "0 1 2 3 -10 4 -12 5");
    dueTokens("f = do {do\n a\n}", "-10 0 1 2 3 4 -10 5 -12 6 -12");
    dueTokens("f = do {do\n a\n;b}", "-10 0 1 2 3 4 -10 5 -12 6 7 8 -12");
    dueFault("{f = do\na}", 9, "0 1 2 3 -10 4");
    // This } begins a block, so the CONTEXT on top is its COLUMN, not 0.
    dueFault("{f = do}", 7, "0 1 2 3 -10");
    dueFault("{f = do\n}", 8, "0 1 2 3 -10");
    dueFault("{f = a where }", 13, "0 1 2 3 4 -10");
  }

  /** "of the end it is 0": of THE TEXT without LEXEMES, and behind let, where, do, of. */
  private static void openingOfTheEnd() {
    dueTokens("", "-10 -12");
    dueTokens("   \n  ", "-10 -12");
    dueTokens("{- a -} -- b", "-10 -12");
    dueTokens("f = do", "-10 0 1 2 -10 -12 -12");
    dueTokens("f = do\n      \n", "-10 0 1 2 -10 -12 -12");
    dueTokens("f = a where", "-10 0 1 2 3 -10 -12 -12");
    dueTokens("f = case a of", "-10 0 1 2 3 4 -10 -12 -12");
    dueTokens("f = do let", "-10 0 1 2 -10 3 -10 -12 -12 -12");
    dueTokens("f = do do do", "-10 0 1 2 -10 3 -10 4 -10 -12 -12 -12 -12");
    dueFault("f = let", 7, "-10 0 1 2 -10 -12");
    dueFault("f = let  \n", 10, "-10 0 1 2 -10 -12");
    dueFault("f = (do", 7, "-10 0 1 2 3 -10 -12");
  }

  /** "INDENT n: as m: ; is put in". */
  private static void indentAsContext() {
    dueTokens("f = 1\ng = 2", "-10 0 1 2 -11 3 4 5 -12");
    dueTokens("f = 1\n\n\ng = 2\nh = 3", "-10 0 1 2 -11 3 4 5 -11 6 7 8 -12");
    dueTokens("f = 1\n;g = 2", "-10 0 1 2 -11 3 4 5 6 -12");
    dueTokens("f = do\n  a\n  b", "-10 0 1 2 -10 3 -11 4 -12 -12");
    dueTokens("f = do a\n       b", "-10 0 1 2 -10 3 -11 4 -12 -12");
    dueFault("f = 1\n= 2", 6, "-10 0 1 2 -11 -13");
    dueFault("f =\n1", 4, "-10 0 1");
    dueFault("f\n= 1", 2, "-10 0");
    dueFault("f = [a\n, b]", 7, "-10 0 1 2 3");
  }

  /** "below m: } is put in, m is taken off, the INDENT stays". */
  private static void indentBelowContext() {
    dueTokens("f = do\n  a\ng = 1", "-10 0 1 2 -10 3 -12 -11 4 5 6 -12");
    dueTokens("f = do\n  do\n    a\ng = 1", "-10 0 1 2 -10 3 -10 4 -12 -12 -11 5 6 7 -12");
    dueTokens("f = do\n  do\n    a\n  b", "-10 0 1 2 -10 3 -10 4 -12 -11 5 -12 -12");
    // One less than the CONTEXT, and above the one below it.
    dueTokens("f = do\n   a\n  + b", "-10 0 1 2 -10 3 -12 4 5 -12");
    dueTokens("f = do\n   do\n      a\n     + b", "-10 0 1 2 -10 3 -10 4 -12 5 6 -12 -12");
    dueFault("  f = 1\n g = 2", 9, "-10 0 1 2 -12");
    dueFault("f = do\n  (a\n b)", 13, "-10 0 1 2 -10 3 4");
    dueFault("f = (do\n  a +\n b)", 15, "-10 0 1 2 3 -10 4 5");
  }

  /** "else .. it is passed over": above m, and in braces. */
  private static void indentAboveContext() {
    dueTokens("f = a\n b", "-10 0 1 2 3 -12");
    dueTokens("f\n =\n  a\n   b", "-10 0 1 2 3 -12");
    dueTokens("f = do\n  a\n   b", "-10 0 1 2 -10 3 4 -12 -12");
    dueTokens("{f\n=\n1\n;\ng\n=\n2\n}", "0 1 2 3 4 5 6 7 8");
    dueTokens("f = do {\na;\nb\n}", "-10 0 1 2 3 4 5 6 7 -12");
    dueTokens("f = do\n {a}", "-10 0 1 2 3 4 5 -12");
  }

  /** "(or with none) it is passed over". */
  private static void indentWithoutContext() {
    dueTokens("{f = 1}", "0 1 2 3 4");
    dueTokens("\n\n    {f = 1}", "0 1 2 3 4");
    dueFault("{f = 1}\ng = 2", 8, "0 1 2 3 4");
    dueFault("{f = 1}\n;", 8, "0 1 2 3 4");
    dueFault("{}\n {}", 4, "0 1");
  }

  /** "A } in THE TEXT: m is 0: it is taken off; else FAULT 4". */
  private static void closingBrace() {
    dueTokens("{}", "0 1");
    dueTokens("f = do {a}\ng = 1", "-10 0 1 2 3 4 5 -11 6 7 8 -12");
    dueTokens("f = do {do {a}; b}", "-10 0 1 2 3 4 5 6 7 8 9 10 -12");
    dueFault("}", 0, "-10");
    dueFault("f = 1 }", 6, "-10 0 1 2");
    dueFault("f = do a }", 9, "-10 0 1 2 -10 3");
    dueFault("f = do {let x = 1}", 17, "-10 0 1 2 3 4 -10 5 6 7");
    dueFault("f = (a }", 7, "-10 0 1 2 3");
    dueFault("f = [a }", 7, "-10 0 1 2 3");
    dueFault("f }", 2, "-10 0");
    dueFault("{} }", 3, "0 1");
    dueFault("{}}", 2, "0 1");
    // m is 0, but } cannot stand.
    dueFault("{f}", 2, "0 1");
    dueFault("{f =}", 4, "0 1 2");
    dueFault("{f = (}", 6, "0 1 2 3");
    dueFault("f = do {a <-}", 12, "-10 0 1 2 3 4 5");
  }

  /** "A { : 0 comes on top"; "of a { that cannot stand there: FAULT 4". */
  private static void openingBrace() {
    dueTokens("f = do {a}", "-10 0 1 2 3 4 5 -12");
    dueTokens("f = let {} in a where {}", "-10 0 1 2 3 4 5 6 7 8 9 -12");
    dueTokens("f = case a of {}", "-10 0 1 2 3 4 5 6 -12");
    dueFault("{{", 1, "0");
    dueFault("f {", 2, "-10 0");
    dueFault("f = {", 4, "-10 0 1");
    dueFault("f = a {", 6, "-10 0 1 2");
    dueFault("f = do a {", 9, "-10 0 1 2 -10 3");
    dueFault("f = do {{", 8, "-10 0 1 2 3");
    dueFault("f = do {a {", 10, "-10 0 1 2 3 4");
    dueFault("f = if {", 7, "-10 0 1 2");
    dueFault("f = case {", 9, "-10 0 1 2");
    dueFault("f = let {} in {", 14, "-10 0 1 2 3 4 5");
    dueFault("f = 1; {", 7, "-10 0 1 2 3");
    // A { has no OPENING, but it may have an INDENT, and what that puts in cannot stand.
    dueFault("f = do\n{a}", 7, "-10 0 1 2");
    dueFault("f = do\n  do\n {a}", 13, "-10 0 1 2 -10 3");
  }

  /** "The end: m above 0: } is put in, m is taken off". */
  private static void theEnd() {
    dueTokens("f = do do a", "-10 0 1 2 -10 3 -10 4 -12 -12 -12");
    dueTokens("f = case a of b -> do c", "-10 0 1 2 3 4 -10 5 6 7 -10 8 -12 -12 -12");
    dueTokens(";", "-10 0 -12");
    dueFault("{", 1, "0");
    dueFault("{f = 1", 6, "0 1 2 3");
    dueFault("f = do {", 8, "-10 0 1 2 3");
    dueFault("f = do {do a", 12, "-10 0 1 2 3 4 -10 5 -12");
    dueFault("f = do {a", 9, "-10 0 1 2 3 4");
    dueFault("f = do a +", 10, "-10 0 1 2 -10 3 4");
  }

  /** Each LEXEME that cannot stand in a block where } could, and can stand behind it. */
  private static void parseError() {
    dueTokens("f = (do a)", "-10 0 1 2 3 -10 4 -13 5 -12");
    dueTokens("f = [do a]", "-10 0 1 2 3 -10 4 -13 5 -12");
    dueTokens("f = (do a, do b)", "-10 0 1 2 3 -10 4 -13 5 6 -10 7 -13 8 -12");
    dueTokens("f = let a = 1 in b", "-10 0 1 2 -10 3 4 5 -13 6 7 -12");
    dueTokens("f = if do a then do b else do c",
        "-10 0 1 2 3 -10 4 -13 5 6 -10 7 -13 8 9 -10 10 -12 -12");
    dueTokens("f = case do a of {}", "-10 0 1 2 3 -10 4 -13 5 6 7 -12");
    dueTokens("f = do a where", "-10 0 1 2 -10 3 -13 4 -10 -12 -12");
    dueTokens("f = case a of b -> c where d = do e where",
        "-10 0 1 2 3 4 -10 5 6 7 8 -10 9 10 11 -10 12 -13 13 -10 -12 -12 -12 -12");
    dueTokens("f = do a\n       + b", "-10 0 1 2 -10 3 -11 -13 4 5 -12");
    dueTokens("f = do a;;\n       + b", "-10 0 1 2 -10 3 4 5 -11 -13 6 7 -12");
    // Empty blocks, and several at once.
    dueTokens("f = (do)", "-10 0 1 2 3 -10 -13 4 -12");
    dueTokens("f = (case a of)", "-10 0 1 2 3 4 5 -10 -13 6 -12");
    dueTokens("f = let in a", "-10 0 1 2 -10 -13 3 4 -12");
    dueTokens("f = [do let]", "-10 0 1 2 3 -10 4 -10 -13 -13 5 -12");
    dueTokens("f = (do do do a)", "-10 0 1 2 3 -10 4 -10 5 -10 6 -13 -13 -13 7 -12");
    dueTokens("f = (case a of b -> c where)", "-10 0 1 2 3 4 5 -10 6 7 8 9 -10 -13 -13 10 -12");
  }

  /** "} is put in, m is taken off": what comes next is as far in as the block around. */
  private static void parseErrorTakesOff() {
    dueTokens("f = let\n     a = 1\n     b = 2 in c\n   d",
        "-10 0 1 2 -10 3 4 5 -11 6 7 8 -13 9 10 11 -12");
    dueTokens("f = do\n  (do\n     a)\n  b", "-10 0 1 2 -10 3 4 -10 5 -13 6 -11 7 -12 -12");
    dueTokens("f = do\n  (do\n     a)\n   b", "-10 0 1 2 -10 3 4 -10 5 -13 6 7 -12 -12");
    dueTokens("f = do {(do a); b}", "-10 0 1 2 3 4 5 -10 6 -13 7 8 9 10 -12");
    dueTokens("f = (do a)\ng = 1", "-10 0 1 2 3 -10 4 -13 5 -11 6 7 8 -12");
  }

  /** "with m above 0, where } could .. If it could not .. FAULT 4". */
  private static void noParseError() {
    // m is 0.
    dueFault("f = (do {a)", 10, "-10 0 1 2 3 4 5");
    dueFault("f = let {a = 1 in a", 15, "-10 0 1 2 3 4 5 6");
    dueFault("{f = 1)", 6, "0 1 2 3");
    dueFault("f = (do {(do a})", 14, "-10 0 1 2 3 4 5 6 -10 7");
    // There is none.
    dueFault("{f = 1} g", 8, "0 1 2 3 4");
    dueFault("{} ;", 3, "0 1");
    // } could not stand.
    dueFault("f = do (a in b", 10, "-10 0 1 2 -10 3 4");
    dueFault("f = do a + in b", 11, "-10 0 1 2 -10 3 4");
    dueFault("f = let a = in b", 12, "-10 0 1 2 -10 3 4");
    dueFault("f = let a in b", 10, "-10 0 1 2 -10 3");
    dueFault("f = (case a of b)", 16, "-10 0 1 2 3 4 5 -10 6");
    dueFault("f = do if a in b", 12, "-10 0 1 2 -10 3 4");
    // All that could be ended are ended first.
    dueFault("f = 1 )", 6, "-10 0 1 2 -13");
    dueFault("f = do do a )", 12, "-10 0 1 2 -10 3 -10 4 -13 -13 -13");
    dueFault("f = do a = b", 9, "-10 0 1 2 -10 3 -13 -13");
    dueFault("f = case a of b -> do c -> d", 24, "-10 0 1 2 3 4 -10 5 6 7 -10 8 -13 -13 -13");
    dueFault("f = do {do a in b}", 13, "-10 0 1 2 3 4 -10 5 -13");
    // What is put in by an INDENT is no LEXEME: no } comes ahead of a ; that cannot stand.
    dueFault("f = do\n  (do a\n  b", 17, "-10 0 1 2 -10 3 4 -10 5 -12");
  }

  /** "the place of the LEXEME, also of one ahead of which it is put in; the end: how many bytes". */
  private static void placesOfFaults() {
    dueFault("f = a b )", 8, "-10 0 1 2 3 -13");
    dueFault("f = (a\n\n   -- c\ng = 1", 16, "-10 0 1 2 3");
    dueFault("f = do\n          (a\n {--} b", 26, "-10 0 1 2 -10 3 4");
    dueFault("f = (", 5, "-10 0 1 2");
    dueFault("f = ( \n {- a -} -- b", 20, "-10 0 1 2");
    dueFault("=", 0, "-10 -13");
    dueFault("   =", 3, "-10 -13");
  }
}
