/** Promises 1 to 6: a new object, type, space, clear, at, alter. */
public final class TextTest {
  private static final Bench BENCH = new Bench();

  public static void main(String[] args) {
    newObject();
    type();
    space();
    clear();
    atAndAlter();
    BENCH.end();
  }

  private static void newObject() {
    LayoutDesk x = new LayoutDesk();
    for (int what = 0; what < 5; what++) {
      BENCH.due("new: count(" + what + ")", x.count(what), 0);
    }
    BENCH.due("new: at(0)", x.at(0), LayoutDesk.NONE);
    BENCH.due("new: fault()", x.fault(), 0);
    BENCH.due("new: lexeme(0, 0)", x.lexeme(0, 0), LayoutDesk.NONE);
    BENCH.due("new: token(0)", x.token(0), LayoutDesk.NONE);
    BENCH.due("new: node(0, 0)", x.node(0, 0), Integer.MIN_VALUE);
    BENCH.due("new: letter(0, 0)", x.letter(0, 0), LayoutDesk.BAD);
    BENCH.due("new: child(0, 0)", x.child(0, 0), LayoutDesk.BAD);
    BENCH.due("new: write(0)", x.write(0), LayoutDesk.NOT);
    BENCH.due("new: write(1)", x.write(1), LayoutDesk.NOT);
    BENCH.due("new: write(2)", x.write(2), LayoutDesk.BAD);
    BENCH.due("new: digest()", x.digest(), 17);
    BENCH.due("new: clear()", x.clear(), 0);
  }

  private static void type() {
    LayoutDesk x = new LayoutDesk();
    BENCH.due("type 0", x.type(-1L, -1L, 0), 0);
    BENCH.due("type 1", x.type(0xFF00000000000000L, 0, 1), 1);
    BENCH.due("at(0)", x.at(0), 255);
    BENCH.due("type 16", x.type(0x0102030405060708L, 0x090A0B0C0D0E0F80L, 16), 17);
    for (int k = 1; k < 16; k++) {
      BENCH.due("at(" + k + ")", x.at(k), k);
    }
    BENCH.due("at(16)", x.at(16), 128);
    BENCH.due("type 9", x.type(0x4142434445464748L, 0x4900000000000000L, 9), 26);
    BENCH.due("at(25)", x.at(25), 0x49);
    BENCH.due("type -1", x.type(0, 0, -1), LayoutDesk.BAD);
    BENCH.due("type 17", x.type(0, 0, 17), LayoutDesk.BAD);
    BENCH.due("type least", x.type(0, 0, Integer.MIN_VALUE), LayoutDesk.BAD);
    BENCH.due("type most", x.type(0, 0, Integer.MAX_VALUE), LayoutDesk.BAD);
    BENCH.due("count(0)", x.count(0), 26);
    LayoutDesk y = new LayoutDesk();
    for (int k = 0; k < 187; k++) {
      y.type(0, 0, 16);
    }
    BENCH.due("2992 bytes", y.count(0), 2992);
    BENCH.due("type over 3000", y.type(0, 0, 9), LayoutDesk.FULL);
    BENCH.due("a bad n is BAD although there is no room", y.type(0, 0, 17), LayoutDesk.BAD);
    BENCH.due("type up to 3000", y.type(0, 0, 8), 3000);
    BENCH.due("type over 3000", y.type(0, 0, 1), LayoutDesk.FULL);
    BENCH.due("type 0 at 3000", y.type(0, 0, 0), 3000);
    BENCH.due("at(2999)", y.at(2999), 0);
    BENCH.due("at(3000)", y.at(3000), LayoutDesk.NONE);
  }

  private static void space() {
    LayoutDesk x = new LayoutDesk();
    BENCH.due("space 0", x.space(false, 0), 0);
    BENCH.due("space line 0", x.space(true, 0), 1);
    BENCH.due("at(0)", x.at(0), 10);
    BENCH.due("space line 2", x.space(true, 2), 4);
    BENCH.due("at(1)", x.at(1), 10);
    BENCH.due("at(2)", x.at(2), 32);
    BENCH.due("at(3)", x.at(3), 32);
    BENCH.due("space 80", x.space(false, 80), 84);
    BENCH.due("space -1", x.space(true, -1), LayoutDesk.BAD);
    BENCH.due("space 81", x.space(false, 81), LayoutDesk.BAD);
    BENCH.due("space most", x.space(true, Integer.MAX_VALUE), LayoutDesk.BAD);
    BENCH.due("count(0)", x.count(0), 84);
    LayoutDesk y = new LayoutDesk();
    for (int k = 0; k < 37; k++) {
      y.space(false, 80);
    }
    BENCH.due("2960 bytes and 39", y.space(false, 39), 2999);
    BENCH.due("space line 1 over 3000", y.space(true, 1), LayoutDesk.FULL);
    BENCH.due("space 2 over 3000", y.space(false, 2), LayoutDesk.FULL);
    BENCH.due("count(0)", y.count(0), 2999);
    BENCH.due("space line 0 up to 3000", y.space(true, 0), 3000);
    BENCH.due("space line 0 over 3000", y.space(true, 0), LayoutDesk.FULL);
    BENCH.due("space 0 at 3000", y.space(false, 0), 3000);
    BENCH.due("clear()", y.clear(), 3000);
    BENCH.due("space 80 behind clear()", y.space(false, 80), 80);
  }

  private static void clear() {
    LayoutDesk x = Bench.desk("f = 1");
    x.read();
    BENCH.due("clear()", x.clear(), 5);
    BENCH.due("clear() again", x.clear(), 0);
    BENCH.due("count(0)", x.count(0), 0);
    BENCH.due("at(0)", x.at(0), LayoutDesk.NONE);
    BENCH.dueText("THE TREE stays", Bench.tree(x, 0), "PROGRAM(DECLARATION:f(1))");
    BENCH.due("the LEXEMES stay", x.lexeme(2, 0), 4);
    BENCH.due("the TOKENS stay", x.count(2), 5);
    BENCH.due("write(0)", x.write(0), 9);
    BENCH.dueText("written", Bench.text(x), "{ f = 1 }");
  }

  private static void atAndAlter() {
    LayoutDesk x = Bench.desk("abc");
    BENCH.due("at(-1)", x.at(-1), LayoutDesk.NONE);
    BENCH.due("at(3)", x.at(3), LayoutDesk.NONE);
    BENCH.due("at(least)", x.at(Integer.MIN_VALUE), LayoutDesk.NONE);
    BENCH.due("at(most)", x.at(Integer.MAX_VALUE), LayoutDesk.NONE);
    BENCH.due("at(2)", x.at(2), 'c');
    BENCH.due("alter(1, 255)", x.alter(1, 255), 'b');
    BENCH.due("at(1)", x.at(1), 255);
    BENCH.due("alter(1, 0)", x.alter(1, 0), 255);
    BENCH.due("at(1)", x.at(1), 0);
    BENCH.due("alter(1, -1)", x.alter(1, -1), LayoutDesk.BAD);
    BENCH.due("alter(1, 256)", x.alter(1, 256), LayoutDesk.BAD);
    BENCH.due("alter(-1, 0)", x.alter(-1, 0), LayoutDesk.BAD);
    BENCH.due("alter(3, 0)", x.alter(3, 0), LayoutDesk.BAD);
    BENCH.due("at(1)", x.at(1), 0);
    BENCH.due("count(0)", x.count(0), 3);
  }
}
