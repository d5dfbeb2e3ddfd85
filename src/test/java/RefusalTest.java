import java.util.function.Supplier;
import java.util.function.ToLongFunction;

/**
 * "Answers below 0: BAD -2, FULL -3, NOT -4, NONE -1 as told. They change nothing." Each of them at
 * the last value that is taken and at the first that is not, on desks in several states.
 */
public final class RefusalTest {
  private static final Bench BENCH = new Bench();
  private static final int LEAST = Integer.MIN_VALUE;
  private static final int GREATEST = Integer.MAX_VALUE;
  private static final int MOST_BYTES = 3000;
  private static final int MOST_READS = 30;

  public static void main(String[] args) {
    constants();
    inEachState();
    typeTakes();
    typeIsFull();
    spaceTakes();
    spaceIsFull();
    alterTakes();
    readIsFull();
    lastOfEach();
    writeIsNot();
    BENCH.end();
  }

  private static void constants() {
    BENCH.due("NONE", LayoutDesk.NONE, -1);
    BENCH.due("BAD", LayoutDesk.BAD, -2);
    BENCH.due("FULL", LayoutDesk.FULL, -3);
    BENCH.due("NOT", LayoutDesk.NOT, -4);
  }

  /** The call has that answer, and the desk tells then what it told before. */
  private static void dueRefused(String call, Supplier<LayoutDesk> made,
      ToLongFunction<LayoutDesk> refused, long answer) {
    LayoutDesk desk = made.get();
    String before = Bench.state(desk);
    BENCH.due(call, refused.applyAsLong(desk), answer);
    BENCH.dueText("behind " + call, Bench.state(desk), before);
  }

  private static LayoutDesk readDesk(String text) {
    LayoutDesk desk = Bench.desk(text);
    desk.read();
    return desk;
  }

  /** It has a TREE, and the latest read() had a FAULT. */
  private static LayoutDesk faultyDesk(String text) {
    LayoutDesk desk = readDesk("foo a = Bar 12 +++ [a]");
    desk.clear();
    Bench.put(desk, text);
    desk.read();
    return desk;
  }

  private static LayoutDesk readOutDesk() {
    LayoutDesk desk = Bench.desk("f = 1");
    for (int k = 0; k < MOST_READS; k++) {
      desk.read();
    }
    return desk;
  }

  private static void inEachState() {
    inState("new", LayoutDesk::new);
    inState("not read", () -> Bench.desk("f = 1"));
    inState("read", () -> readDesk("foo a = Bar 12 +++ [a]\nx = do {}"));
    inState("read, empty", () -> readDesk(""));
    inState("read, then altered", () -> {
      LayoutDesk desk = readDesk("foo = Bar 12");
      desk.alter(0, 255);
      return desk;
    });
    inState("FAULT 1 alone", () -> readDesk("f = $"));
    inState("FAULT 1", () -> faultyDesk("f = $"));
    inState("FAULT 4", () -> faultyDesk("f = (1"));
    inState("FAULT 5", () -> faultyDesk("f = " + "(".repeat(31)));
    inState("read, then cleared", () -> {
      LayoutDesk desk = readDesk("f = 1");
      desk.clear();
      return desk;
    });
    inState("read 30 times", RefusalTest::readOutDesk);
    inState("full", () -> readDesk("f = 1" + " ".repeat(MOST_BYTES - 5)));
  }

  private static void inState(String state, Supplier<LayoutDesk> made) {
    for (int n : new int[] {-1, 17, LEAST, GREATEST}) {
      dueRefused(state + ": type(.., " + n + ")", made, x -> x.type(-1, -1, n), LayoutDesk.BAD);
    }
    for (int n : new int[] {-1, 81, LEAST, GREATEST}) {
      dueRefused(state + ": space(false, " + n + ")", made, x -> x.space(false, n), LayoutDesk.BAD);
      dueRefused(state + ": space(true, " + n + ")", made, x -> x.space(true, n), LayoutDesk.BAD);
    }
    for (int what : new int[] {-1, 5, LEAST, GREATEST}) {
      dueRefused(state + ": count(" + what + ")", made, x -> x.count(what), LayoutDesk.BAD);
    }
    for (int form : new int[] {-1, 2, LEAST, GREATEST}) {
      dueRefused(state + ": write(" + form + ")", made, x -> x.write(form), LayoutDesk.BAD);
    }
    placesInState(state, made);
    lexemesInState(state, made);
    nodesInState(state, made);
  }

  private static void placesInState(String state, Supplier<LayoutDesk> made) {
    int bytes = made.get().count(0);
    for (int i : new int[] {-1, bytes, LEAST, GREATEST}) {
      dueRefused(state + ": at(" + i + ")", made, x -> x.at(i), LayoutDesk.NONE);
      dueRefused(state + ": alter(" + i + ", 65)", made, x -> x.alter(i, 65), LayoutDesk.BAD);
    }
    for (int v : new int[] {-1, 256, LEAST, GREATEST}) {
      dueRefused(state + ": alter(0, " + v + ")", made, x -> x.alter(0, v), LayoutDesk.BAD);
      dueRefused(state + ": alter of the last", made, x -> x.alter(bytes - 1, v), LayoutDesk.BAD);
    }
  }

  private static void lexemesInState(String state, Supplier<LayoutDesk> made) {
    int lexemes = made.get().count(1);
    for (int i : new int[] {-1, lexemes, LEAST, GREATEST}) {
      for (int what = 0; what < 6; what++) {
        int which = what;
        dueRefused(state + ": lexeme(" + i + ", " + what + ")", made, x -> x.lexeme(i, which),
            LayoutDesk.NONE);
      }
    }
    for (int what : new int[] {-1, 6, LEAST, GREATEST}) {
      if (lexemes > 0) {
        dueRefused(state + ": lexeme(0, " + what + ")", made, x -> x.lexeme(0, what), LayoutDesk.BAD);
        dueRefused(state + ": lexeme of the last", made, x -> x.lexeme(lexemes - 1, what),
            LayoutDesk.BAD);
      }
      // The words leave open what comes first, BAD or NONE; what was done stands.
      for (int i : new int[] {-1, lexemes, LEAST, GREATEST}) {
        dueRefused(state + ": lexeme(" + i + ", " + what + ")", made, x -> x.lexeme(i, what),
            LayoutDesk.BAD);
      }
    }
    int tokens = made.get().count(2);
    for (int i : new int[] {-1, tokens, LEAST, GREATEST}) {
      dueRefused(state + ": token(" + i + ")", made, x -> x.token(i), LayoutDesk.NONE);
    }
  }

  private static void nodesInState(String state, Supplier<LayoutDesk> made) {
    LayoutDesk model = made.get();
    int nodes = model.count(3);
    for (int i : new int[] {-1, nodes, LEAST, GREATEST}) {
      for (int what = 0; what < 5; what++) {
        int which = what;
        dueRefused(state + ": node(" + i + ", " + what + ")", made, x -> x.node(i, which), LEAST);
      }
      dueRefused(state + ": letter(" + i + ", 0)", made, x -> x.letter(i, 0), LayoutDesk.BAD);
      dueRefused(state + ": child(" + i + ", 0)", made, x -> x.child(i, 0), LayoutDesk.BAD);
    }
    for (int i = 0; i < nodes; i++) {
      int node = i;
      for (int what : new int[] {-1, 5, LEAST, GREATEST}) {
        dueRefused(state + ": node(" + i + ", " + what + ")", made, x -> x.node(node, what), LEAST);
      }
      for (int k : new int[] {-1, model.node(i, 4), LEAST, GREATEST}) {
        dueRefused(state + ": letter(" + i + ", " + k + ")", made, x -> x.letter(node, k),
            LayoutDesk.NONE);
      }
      for (int k : new int[] {-1, parts(model, i), LEAST, GREATEST}) {
        dueRefused(state + ": child(" + i + ", " + k + ")", made, x -> x.child(node, k),
            LayoutDesk.NONE);
      }
    }
  }

  /** How many NODES are in NODE i, told by node() alone. */
  private static int parts(LayoutDesk desk, int i) {
    int parts = 0;
    for (int j = 0; j < desk.count(3); j++) {
      parts += desk.node(j, 1) == i ? 1 : 0;
    }
    return parts;
  }

  private static void typeTakes() {
    for (int n = 0; n <= 16; n++) {
      LayoutDesk desk = Bench.desk("xy");
      BENCH.due("type of " + n, desk.type(0x8081828384858687L, 0x88898A8B8C8D8EFFL, n), 2 + n);
      BENCH.due("count(0)", desk.count(0), 2 + n);
      for (int k = 0; k < n; k++) {
        BENCH.due("byte " + k + " of " + n, desk.at(2 + k), k == 15 ? 255 : 128 + k);
      }
      BENCH.due("the byte behind", desk.at(2 + n), LayoutDesk.NONE);
      BENCH.due("the byte ahead", desk.at(1), 'y');
    }
  }

  private static void typeIsFull() {
    for (int n = 1; n <= 16; n++) {
      int many = n;
      String room = "x".repeat(MOST_BYTES - n);
      LayoutDesk desk = Bench.desk(room);
      BENCH.due("type of " + n + " up to 3000", desk.type(-1, -1, n), MOST_BYTES);
      BENCH.due("the last byte", desk.at(MOST_BYTES - 1), 255);
      dueRefused("type of " + n + " up to 3001", () -> Bench.desk(room + "x"),
          x -> x.type(-1, -1, many), LayoutDesk.FULL);
      dueRefused("type of " + n + " behind 3000", () -> Bench.desk("x".repeat(MOST_BYTES)),
          x -> x.type(-1, -1, many), LayoutDesk.FULL);
    }
    LayoutDesk desk = Bench.desk("x".repeat(MOST_BYTES));
    BENCH.due("type of 0 behind 3000", desk.type(-1, -1, 0), MOST_BYTES);
    BENCH.due("space(false, 0) behind 3000", desk.space(false, 0), MOST_BYTES);
  }

  private static void spaceTakes() {
    for (int n : new int[] {0, 1, 2, 79, 80}) {
      LayoutDesk desk = Bench.desk("xy");
      BENCH.due("space(false, " + n + ")", desk.space(false, n), 2 + n);
      LayoutDesk lines = Bench.desk("xy");
      BENCH.due("space(true, " + n + ")", lines.space(true, n), 3 + n);
      BENCH.due("the byte 10", lines.at(2), 10);
      for (int k = 0; k < n; k++) {
        BENCH.due("byte " + k + " of space(false, " + n + ")", desk.at(2 + k), 32);
        BENCH.due("byte " + k + " of space(true, " + n + ")", lines.at(3 + k), 32);
      }
      BENCH.due("the byte behind", desk.at(2 + n), LayoutDesk.NONE);
      BENCH.due("the byte behind", lines.at(3 + n), LayoutDesk.NONE);
    }
  }

  private static void spaceIsFull() {
    for (int n : new int[] {1, 2, 40, 80}) {
      LayoutDesk desk = Bench.desk("x".repeat(MOST_BYTES - n));
      BENCH.due("space(false, " + n + ") up to 3000", desk.space(false, n), MOST_BYTES);
      BENCH.due("the last byte", desk.at(MOST_BYTES - 1), 32);
      dueRefused("space(false, " + n + ") up to 3001",
          () -> Bench.desk("x".repeat(MOST_BYTES - n + 1)), x -> x.space(false, n), LayoutDesk.FULL);
    }
    for (int n : new int[] {0, 1, 2, 40, 80}) {
      LayoutDesk desk = Bench.desk("x".repeat(MOST_BYTES - n - 1));
      BENCH.due("space(true, " + n + ") up to 3000", desk.space(true, n), MOST_BYTES);
      BENCH.due("its byte 10", desk.at(MOST_BYTES - n - 1), 10);
      dueRefused("space(true, " + n + ") up to 3001",
          () -> Bench.desk("x".repeat(MOST_BYTES - n)), x -> x.space(true, n), LayoutDesk.FULL);
    }
  }

  private static void alterTakes() {
    LayoutDesk desk = Bench.desk("xyz");
    BENCH.due("alter(0, 0)", desk.alter(0, 0), 'x');
    BENCH.due("alter(2, 255)", desk.alter(2, 255), 'z');
    BENCH.due("at(0)", desk.at(0), 0);
    BENCH.due("at(1)", desk.at(1), 'y');
    BENCH.due("at(2)", desk.at(2), 255);
    BENCH.due("alter(2, 1)", desk.alter(2, 1), 255);
    BENCH.due("count(0)", desk.count(0), 3);
    LayoutDesk full = Bench.desk("x".repeat(MOST_BYTES));
    BENCH.due("alter(2999, 254)", full.alter(MOST_BYTES - 1, 254), 'x');
    BENCH.due("at(2999)", full.at(MOST_BYTES - 1), 254);
    BENCH.due("at(2998)", full.at(MOST_BYTES - 2), 'x');
  }

  /** "FULL: 30 such calls went ahead of it"; a read() with a FAULT is one of them. */
  private static void readIsFull() {
    for (String text : new String[] {"f = 1", "", "f = $", "f = (", "f = " + "(".repeat(31)}) {
      Supplier<LayoutDesk> made = () -> {
        LayoutDesk desk = readDesk("foo = 1");
        desk.clear();
        Bench.put(desk, text);
        for (int k = 1; k < MOST_READS; k++) {
          BENCH.due("read() " + (k + 1) + " is not FULL", desk.read() == LayoutDesk.FULL ? 1 : 0, 0);
        }
        BENCH.due("count(4)", desk.count(4), MOST_READS);
        return desk;
      };
      dueRefused("read() 31 of " + text, made, LayoutDesk::read, LayoutDesk.FULL);
      dueRefused("read() 31 of another text than " + text, () -> {
        LayoutDesk desk = made.get();
        desk.clear();
        Bench.put(desk, "bar = 2");
        return desk;
      }, LayoutDesk::read, LayoutDesk.FULL);
      dueRefused("read() 32 of " + text, () -> {
        LayoutDesk desk = made.get();
        desk.read();
        return desk;
      }, LayoutDesk::read, LayoutDesk.FULL);
    }
    LayoutDesk desk = readOutDesk();
    BENCH.due("write() goes on", desk.write(0), 9);
    BENCH.due("type() goes on", desk.type(-1, 0, 1), 10);
    BENCH.due("clear() goes on", desk.clear(), 10);
  }

  private static void lastOfEach() {
    LayoutDesk desk = readDesk("foo a = Bar 12 +++ [a]\nx = do {}");
    long[] lexeme = {31, 9, 4, 1, -1, -1};
    for (int what = 0; what < 6; what++) {
      BENCH.due("lexeme(13, " + what + ")", desk.lexeme(13, what), lexeme[what]);
    }
    long[] first = {0, 1, 0, 3, 1, -1};
    for (int what = 0; what < 6; what++) {
      BENCH.due("lexeme(0, " + what + ")", desk.lexeme(0, what), first[what]);
    }
    BENCH.due("token(0)", desk.token(0), -10);
    BENCH.due("token(16)", desk.token(16), -12);
    long[] counts = {32, 14, 17, 13, 1};
    for (int what = 0; what < 5; what++) {
      BENCH.due("count(" + what + ")", desk.count(what), counts[what]);
    }
    long[] node = {16, 11, 1, 0, 0};
    for (int what = 0; what < 5; what++) {
      BENCH.due("node(12, " + what + ")", desk.node(12, what), node[what]);
    }
    BENCH.due("letter(1, 2)", desk.letter(1, 2), 'o');
    BENCH.due("letter(10, 0)", desk.letter(10, 0), 'x');
    BENCH.due("child(0, 1)", desk.child(0, 1), 10);
    BENCH.due("child(11, 0)", desk.child(11, 0), 12);
  }

  /** "NOT: there is no TREE": before any read(), and where each of them had a FAULT. */
  private static void writeIsNot() {
    for (int form = 0; form < 2; form++) {
      int which = form;
      dueRefused("write() of a new desk", LayoutDesk::new, x -> x.write(which), LayoutDesk.NOT);
      dueRefused("write() before read()", () -> Bench.desk("f = 1"), x -> x.write(which),
          LayoutDesk.NOT);
      for (String text : new String[] {"f = $", "f = 1234567", "{-", "f = (", "f = " + "(".repeat(31)}) {
        dueRefused("write() behind the FAULT of " + text, () -> readDesk(text), x -> x.write(which),
            LayoutDesk.NOT);
      }
      BENCH.due("write() of an empty PROGRAM", readDesk("").write(form), form == 0 ? 3 : 0);
      BENCH.due("write() behind a FAULT, of THE TREE before", faultyDesk("f = $").write(form),
          form == 0 ? 28 : 24);
    }
  }
}
