/**
 * Promises 7, 8, 9, 10: what is told is of that read() alone. A desk that read other texts before tells
 * of each text what a new desk tells, and THE TREE is that of the latest text without a FAULT.
 */
public final class AgainTest {
  private static final Bench BENCH = new Bench();

  private static final String[] TEXTS = {
    "", "{}", "f = 1", "foo a = Bar 12 +++ [a]\nx = do {}", "{f = do {a; b}}", "g = 2 -- a", "g = 2 {- a -}",
    "  f = do\n    a <- b\n    let c = 1\n    d", "f = case a of\n  B c -> d where e = 1\n  _ -> (2, 3)",
    "f = let x = 1\n        y = 2 in x + y\ng = if a then b else \\c -> d",
    "f = ((a b) (c d)) + [[], [()]]\nh = do do do a", "f = do let a = 1 in b", "f = do\n  let a = 1\n  b",
    "$", "f = $", "f = 1234567", "f = {- a", "f = (a", "f = do {a", "f = do\n  (a\n b", "= f", "}", "{{",
    "f = " + "(".repeat(30), "f = " + "(".repeat(29) + "a" + ")".repeat(29),
    "f = " + "(".repeat(27) + "do let b = 1 in b", "f = " + "(".repeat(27) + "do let b = 1",
    "f = do let b = " + "(".repeat(26), "f = do let b = do let c = " + "(".repeat(40),
    // then is LEXEME 5 of the one, and no more of the other.
    "f = if a b then c else d", "f = if a ;", "f = if a then b c else d", "f = if a then b ;",
    "f=" + "do{}+".repeat(150) + "a", "f = " + "a ".repeat(799), "f = do\n" + " do\n".repeat(300)};

  public static void main(String[] args) {
    pairs();
    manyInOne();
    letsThatNeverEnded();
    faultOfTheLatest();
    whatReadDoesNotChange();
    BENCH.end();
  }

  /** Of the latest read() alone. */
  private static String told(LayoutDesk desk) {
    StringBuilder all = new StringBuilder("fault " + desk.fault());
    all.append("\nLEXEMES ").append(desk.count(1)).append(": ").append(Bench.lexemes(desk));
    all.append("\nCOLUMNS ").append(Bench.columns(desk));
    return all.append("\nTOKENS ").append(desk.count(2)).append(": ").append(Bench.tokens(desk)).toString();
  }

  /** THE TREE, with all that node() tells. */
  private static String tree(LayoutDesk desk) {
    StringBuilder all = new StringBuilder(desk.count(3) + " NODES, digest " + desk.digest());
    for (int i = 0; i < desk.count(3); i++) {
      for (int what = 0; what < 5; what++) {
        all.append(what == 0 ? " | " : " ").append(desk.node(i, what));
      }
    }
    return all.append('\n').append(desk.count(3) > 0 ? Bench.tree(desk, 0) : "").toString();
  }

  private static final int[] ANSWERS = new int[TEXTS.length];
  private static final String[] TOLD = new String[TEXTS.length];
  private static final String[] TREES = new String[TEXTS.length];

  /** What a new desk tells of each of the TEXTS. */
  private static void learn() {
    for (int k = 0; k < TEXTS.length; k++) {
      LayoutDesk desk = Bench.desk(TEXTS[k]);
      ANSWERS[k] = desk.read();
      TOLD[k] = told(desk);
      TREES[k] = tree(desk);
    }
  }

  /** Reads one of the TEXTS; latest is the one that THE TREE is of, -1: none. */
  private static int readAgain(LayoutDesk desk, int k, int latest) {
    desk.clear();
    Bench.put(desk, TEXTS[k]);
    BENCH.due("read() again of " + TEXTS[k], desk.read(), ANSWERS[k]);
    BENCH.dueText("told again of " + TEXTS[k], told(desk), TOLD[k]);
    int now = ANSWERS[k] > 0 ? k : latest;
    BENCH.dueText("THE TREE behind " + TEXTS[k], tree(desk), now < 0 ? tree(new LayoutDesk()) : TREES[now]);
    return now;
  }

  private static void pairs() {
    learn();
    for (int first = 0; first < TEXTS.length; first++) {
      for (int second = 0; second < TEXTS.length; second++) {
        LayoutDesk desk = new LayoutDesk();
        int latest = readAgain(desk, first, -1);
        latest = readAgain(desk, second, latest);
        readAgain(desk, first, latest);
      }
    }
  }

  private static void manyInOne() {
    for (int step = 1; step < TEXTS.length; step += 2) {
      LayoutDesk desk = new LayoutDesk();
      int latest = -1;
      for (int k = 0; k < 30; k++) {
        latest = readAgain(desk, k * step % TEXTS.length, latest);
        BENCH.due("count(4)", desk.count(4), k + 1);
      }
    }
  }

  /** Lets in steps whose blocks never ended leave nothing behind. */
  private static void letsThatNeverEnded() {
    LayoutDesk desk = new LayoutDesk();
    for (int k = 0; k < 29; k++) {
      desk.clear();
      Bench.put(desk, "f = " + "do let b = ".repeat(150) + "(");
      BENCH.due("read() of lets", desk.read(), -104 - 9 * 11 - 7);
    }
    desk.clear();
    Bench.put(desk, "f = do let b = " + "(".repeat(26) + "1" + ")".repeat(26) + " in b");
    BENCH.due("read() behind lets", desk.read(), -115 - 25);
    BENCH.due("fault() behind lets", desk.fault(), 5);
  }

  /** "The number of the FAULT of the latest read() that was not FULL; 0: none, or before any". */
  private static void faultOfTheLatest() {
    LayoutDesk desk = new LayoutDesk();
    BENCH.due("fault() before any", desk.fault(), 0);
    Bench.put(desk, "$");
    BENCH.due("fault() before any read()", desk.fault(), 0);
    String[] texts = {"$", "f = 1234567", "{-", "=", "f = " + "(".repeat(30), "f=" + "a ".repeat(799), "f = 1"};
    int[] faults = {1, 2, 3, 4, 5, 5, 0};
    for (int k = 0; k < 28; k++) {
      desk.clear();
      Bench.put(desk, texts[k % texts.length]);
      BENCH.due("fault() of the one before", desk.fault(), k == 0 ? 0 : faults[(k - 1) % faults.length]);
      desk.read();
      BENCH.due("fault() of " + texts[k % texts.length], desk.fault(), faults[k % faults.length]);
      BENCH.due("fault() again", desk.fault(), faults[k % faults.length]);
    }
  }

  /** "THE TEXT, which stays, is read": all bytes are as they were, and a second read() tells the same. */
  private static void whatReadDoesNotChange() {
    for (String text : TEXTS) {
      LayoutDesk desk = Bench.desk(text);
      int answer = desk.read();
      BENCH.dueText("THE TEXT stays", Bench.text(desk), text);
      String state = told(desk) + tree(desk);
      BENCH.due("read() again", desk.read(), answer);
      BENCH.dueText("told again", told(desk) + tree(desk), state);
    }
  }
}
