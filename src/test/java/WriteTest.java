/** Section 4 with promise 15: write, with braces and by columns. */
public final class WriteTest {
  private static final Bench BENCH = new Bench();

  public static void main(String[] args) {
    braces();
    columns();
    full();
    wrongInputs();
    BENCH.end();
  }

  private static void dueWritten(String text, int form, String written) {
    LayoutDesk x = Bench.desk(text);
    int nodes = x.read();
    long digest = x.digest();
    int lexemes = x.count(1);
    int tokens = x.count(2);
    BENCH.due("write(" + form + ") of " + text, x.write(form), written.length());
    BENCH.dueText("written of " + text, Bench.text(x), written);
    BENCH.due("LEXEMES stay", x.count(1), lexemes);
    BENCH.due("TOKENS stay", x.count(2), tokens);
    BENCH.due("THE TREE stays", x.digest(), digest);
    BENCH.due("read() of what was written", x.read(), nodes);
    BENCH.due("digest() of what was written", x.digest(), digest);
    BENCH.due("write() again", x.write(form), written.length());
    BENCH.dueText("written again", Bench.text(x), written);
  }

  private static void braces() {
    dueWritten("", 0, "{ }");
    dueWritten("f=1", 0, "{ f = 1 }");
    dueWritten("f=1\ng=2", 0, "{ f = 1 ; g = 2 }");
    dueWritten("{;;f=1;;g=2;;}", 0, "{ f = 1 ; g = 2 }");
    dueWritten("f a(B c)=a+b c where\n g=() where", 0,
        "{ f a ( B c ) = a + b c where { g = ( ) where { } } }");
    dueWritten("f=\\a(b)->[ ] [1] [a,b] (a) (a,b)", 0,
        "{ f = \\ a ( b ) -> [ ] [ 1 ] [ a , b ] ( a ) ( a , b ) }");
    dueWritten("f=let in let a=1;b=2 in a", 0, "{ f = let { } in let { a = 1 ; b = 2 } in a }");
    dueWritten("f=if a;then b;else c", 0, "{ f = if a then b else c }");
    dueWritten("f=case a of B c->d where e=1\n            _->2", 0,
        "{ f = case a of { B c -> d where { e = 1 } ; _ -> 2 } }");
    dueWritten("f=do{a<-b;let{};let{c=1}in c;d}", 0,
        "{ f = do { a <- b ; let { } ; let { c = 1 } in c ; d } }");
    dueWritten("f = 0 000 007 100000 120", 0, "{ f = 0 0 7 100000 120 }");
  }

  private static void columns() {
    dueWritten("", 1, "");
    dueWritten("{ f = 1 ; g = 2 }", 1, "f = 1\ng = 2");
    dueWritten("f=do{}", 1, "f = do { }");
    dueWritten("f=let{}in a where{}", 1, "f = let { } in a where { }");
    dueWritten("f=do{a;b};g=1", 1, "f = do\n    a\n    b\ng = 1");
    dueWritten("f=(do{a},1)", 1, "f = ( do\n    a\n  , 1 )");
    dueWritten("f=let{a=1;b=2}in a", 1, "f = let\n    a = 1\n    b = 2\n  in a");
    dueWritten("f=a where{b=c where{d=1};e=2};g=1", 1,
        "f = a where\n    b = c where\n        d = 1\n    e = 2\ng = 1");
    dueWritten("f=do{do{a};do{do{b}}}+do{c}*d", 1,
        "f = do\n    do\n        a\n    do\n        do\n            b\n  + do\n    c\n  * d");
    dueWritten("f=case(case a of{b->c})of{d->do{e}where{g=1}}", 1,
        "f = case ( case a of\n    b -> c\n  ) of\n    d -> do\n        e\n      where\n        g = 1");
    dueWritten("f=do{let{a=1};let{b=1}in b;let{};c<-do{d}+e}", 1,
        "f = do\n    let\n        a = 1\n    let\n        b = 1\n      in b\n    let { }\n"
            + "    c <- do\n        d\n      + e");
    dueWritten("f=if do{a}then do{b}else do{c}", 1,
        "f = if do\n    a\n  then do\n    b\n  else do\n    c");
    dueWritten("f=do{if do{a}then do{b}else do{c};d}", 1,
        "f = do\n    if do\n        a\n      then do\n        b\n      else do\n        c\n    d");
    dueWritten("f=((do{(do{a})}))", 1, "f = ( ( do\n    ( do\n        a\n      )\n  ) )");
    dueWritten("f=(do{do{a}})", 1, "f = ( do\n    do\n        a\n  )");
    dueWritten("f=\\x->do{a}where{}", 1, "f = \\ x -> do\n    a\n  where { }");
  }

  /** A text of n bytes with braces: { f = aaaaaaaaaaaa aaaaaaaaaaaa .. }. */
  private static LayoutDesk deskOf(int n) {
    StringBuilder text = new StringBuilder("{ f =");
    int left = n - 7;
    while (left > 0) {
      int name = left == 14 || left == 15 ? 6 : Math.min(12, left - 1);
      text.append(' ').append("a".repeat(name));
      left -= name + 1;
    }
    text.append(" }");
    LayoutDesk x = Bench.desk(text.toString());
    BENCH.due("bytes of the text", x.count(0), n);
    return x;
  }

  private static void full() {
    LayoutDesk x = deskOf(3000);
    x.read();
    BENCH.due("fault()", x.fault(), 0);
    BENCH.due("write(0) of 3000", x.write(0), 3000);
    BENCH.due("write(1) of 2996", x.write(1), 2996);
    LayoutDesk y = Bench.desk("{f = " + "a+".repeat(380) + "a}");
    y.read();
    BENCH.due("write(0) of 1529", y.write(0), 9 + 761 * 2 - 2);
    // In lines of 4 * 14 spaces and more.
    StringBuilder deep = new StringBuilder("f=");
    for (int k = 0; k < 14; k++) {
      deep.append("do{");
    }
    for (int k = 0; k < 60; k++) {
      deep.append("a;");
    }
    deep.append("a").append("}".repeat(14));
    LayoutDesk z = Bench.desk(deep.toString());
    BENCH.due("read()", z.read(), 2 + 14 * 2 + 61);
    long digest = z.digest();
    BENCH.due("write(1) of more than 3000", z.write(1), LayoutDesk.FULL);
    BENCH.dueText("THE TEXT stays", Bench.text(z), deep.toString());
    BENCH.due("THE TREE stays", z.digest(), digest);
    BENCH.due("write(0)", z.write(0), 8 + 14 * 7 + 61 * 4 - 3);
    BENCH.due("read()", z.read(), 2 + 14 * 2 + 61);
    BENCH.due("digest()", z.digest(), digest);
    edge();
  }

  /** By columns 3000 and 3001 bytes; the first line of a thing is 61 bytes with its byte 10. */
  private static void edge() {
    for (int more = 0; more < 2; more++) {
      StringBuilder text = new StringBuilder("f=");
      for (int k = 0; k < 14; k++) {
        text.append("do{");
      }
      // "f = do", then 13 lines of "do", k * 4 spaces and a byte 10 ahead of each.
      int bytes = 6;
      for (int k = 1; k < 14; k++) {
        bytes += 1 + 4 * k + 2;
      }
      int things = (3000 - bytes) / 58 - 1;
      bytes += things * 58;
      text.append("a;".repeat(things));
      int rest = 3000 + more - bytes - 57;
      StringBuilder last = new StringBuilder();
      while (rest > 0) {
        int name = rest > 26 ? 12 : rest > 12 ? rest / 2 : rest;
        last.append(last.length() == 0 ? "" : " ").append("b".repeat(name));
        rest -= name + 1;
      }
      text.append(last).append("}".repeat(14));
      LayoutDesk x = Bench.desk(text.toString());
      BENCH.due("there is a TREE", x.read() > 0 ? 1 : 0, 1);
      BENCH.due("write(1), " + more, x.write(1), more == 0 ? 3000 : LayoutDesk.FULL);
    }
  }

  private static void wrongInputs() {
    LayoutDesk x = Bench.desk("f = (");
    BENCH.due("write(0) before any read()", x.write(0), LayoutDesk.NOT);
    x.read();
    BENCH.due("write(0) behind a FAULT alone", x.write(0), LayoutDesk.NOT);
    BENCH.due("write(1) behind a FAULT alone", x.write(1), LayoutDesk.NOT);
    BENCH.due("write(2)", x.write(2), LayoutDesk.BAD);
    BENCH.dueText("THE TEXT stays", Bench.text(x), "f = (");
    x.clear();
    x.read();
    BENCH.due("write(-1)", x.write(-1), LayoutDesk.BAD);
    BENCH.due("write(2)", x.write(2), LayoutDesk.BAD);
    BENCH.due("write(least)", x.write(Integer.MIN_VALUE), LayoutDesk.BAD);
    Bench.put(x, "$$");
    BENCH.due("write(1) of an empty PROGRAM", x.write(1), 0);
    BENCH.due("count(0)", x.count(0), 0);
  }
}
