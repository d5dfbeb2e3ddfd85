import java.nio.charset.StandardCharsets;
import java.util.Random;

/**
 * Runs of 512 calls by chance, wrong ones among them. The bytes are held a second time here; what is
 * told of a read() and of THE TREE is what new desks tell that read the same texts once.
 */
public final class CallsRandomTest {
  private static final Bench BENCH = new Bench();
  private static final int RUNS = 300;
  private static final int CALLS = 512;
  private static final int MOST_BYTES = 3000;
  private static final int MOST_READS = 30;
  private static final int[] FAR = {Integer.MIN_VALUE, Integer.MAX_VALUE, -1, -2, 17, 81, 256, 3000, 3001};
  private static final String[] PIECES = {
    "f = 1", "foo a = Bar 12", "= do", "let", "in", "x", " + ", "(", ")", "[a, b]", "{", "}", ";", "\n", "\n  ",
    " ", "case a of", " -> ", " <- ", "where", "$", "{-", "-}", "-- c\n", "if a then b else c", "\\x -> ", "1234567"};

  private static final String[] WHOLE = {
    "f = 1\n", "foo (Bar a) 12 = do\n  a <- b c\n  let d = 1\n  d + 20\n", "f = case a of\n  B c -> [(), (1, 2)]\n",
    "f = if a then b else \\c -> let d = 1 in d where\n", "{f = do {}; g = a where {h = 1}}",
    "f = do\n" + "  do do do do do do do do do do do a\n".repeat(40)};

  private final Random chance;
  private final LayoutDesk desk = new LayoutDesk();
  private final StringBuilder bytes = new StringBuilder();
  private LayoutDesk latest = new LayoutDesk();
  private LayoutDesk treed = new LayoutDesk();
  private int reads = 0;

  private CallsRandomTest(long seed) {
    chance = new Random(seed);
  }

  public static void main(String[] args) {
    int trees = 0;
    for (int seed = 0; seed < RUNS; seed++) {
      CallsRandomTest run = new CallsRandomTest(seed);
      for (int k = 0; k < CALLS; k++) {
        run.call();
      }
      trees += run.treed.count(3) > 1 ? 1 : 0;
    }
    System.out.println(trees + " of " + RUNS + " runs end with a TREE");
    BENCH.end();
  }

  /** Mostly 0 to most, and now and then far from it. */
  private int some(int most) {
    return chance.nextInt(12) == 0 ? FAR[chance.nextInt(FAR.length)] : chance.nextInt(most + 2) - 1 + chance.nextInt(2);
  }

  private void call() {
    switch (chance.nextInt(16)) {
      case 0:
      case 1:
      case 2:
        type();
        break;
      case 3:
        space();
        break;
      case 4:
        alter();
        break;
      case 5:
        if (chance.nextInt(4) == 0) {
          clear();
        }
        break;
      case 6:
      case 7:
        read();
        break;
      case 8:
        write();
        break;
      case 9:
        at(some(bytes.length()));
        break;
      case 10:
      case 11:
        ofTheRead();
        break;
      case 12:
        BENCH.due("count()", desk.count(0), bytes.length());
        BENCH.due("count()", desk.count(3), treed.count(3));
        BENCH.due("count()", desk.count(4), reads);
        break;
      default:
        ofTheTree();
        break;
    }
  }

  /** Some of the texts that come then are whole. */
  private void clear() {
    BENCH.due("clear()", desk.clear(), bytes.length());
    bytes.setLength(0);
    if (chance.nextBoolean()) {
      String whole = WHOLE[chance.nextInt(WHOLE.length)];
      Bench.put(desk, whole);
      bytes.append(whole);
    }
  }

  private void type() {
    boolean piece = chance.nextInt(4) > 0;
    long[] halves = {chance.nextLong(), chance.nextLong()};
    int n = some(16);
    if (piece) {
      byte[] some = PIECES[chance.nextInt(PIECES.length)].getBytes(StandardCharsets.ISO_8859_1);
      n = Math.min(16, some.length);
      for (int k = 0; k < n; k++) {
        int shift = 56 - 8 * (k % 8);
        halves[k / 8] = halves[k / 8] & ~(255L << shift) | (some[k] & 255L) << shift;
      }
    }
    int due = n < 0 || n > 16 ? -2 : bytes.length() + n > MOST_BYTES ? -3 : bytes.length() + n;
    BENCH.due("type()", desk.type(halves[0], halves[1], n), due);
    for (int k = 0; due >= 0 && k < n; k++) {
      bytes.append((char) (halves[k / 8] >>> (56 - 8 * (k % 8)) & 255));
    }
  }

  private void space() {
    boolean line = chance.nextBoolean();
    int n = some(chance.nextInt(4) == 0 ? 80 : 6);
    int more = line ? 1 : 0;
    int due = n < 0 || n > 80 ? -2 : bytes.length() + n + more > MOST_BYTES ? -3 : bytes.length() + n + more;
    BENCH.due("space()", desk.space(line, n), due);
    if (due >= 0) {
      bytes.append(line ? "\n" : "").append(" ".repeat(n));
    }
  }

  private void alter() {
    int i = some(bytes.length());
    int v = chance.nextBoolean() ? some(255) : 32;
    boolean bad = i < 0 || i >= bytes.length() || v < 0 || v > 255;
    BENCH.due("alter()", desk.alter(i, v), bad ? -2 : bytes.charAt(i));
    if (!bad) {
      bytes.setCharAt(i, (char) v);
    }
    at(i);
  }

  private void at(int i) {
    BENCH.due("at()", desk.at(i), i < 0 || i >= bytes.length() ? -1 : bytes.charAt(i));
  }

  private void read() {
    int answer = desk.read();
    if (reads == MOST_READS) {
      BENCH.due("read()", answer, -3);
      return;
    }
    reads++;
    latest = Bench.desk(bytes.toString());
    BENCH.due("read()", answer, latest.read());
    if (latest.fault() == 0) {
      treed = latest;
    }
  }

  private void write() {
    int form = chance.nextInt(4) == 0 ? some(2) : chance.nextInt(2);
    int due = -2;
    String written = null;
    if (form == 0 || form == 1) {
      // A new desk writes into its own text, so that the one at hand stays as it is.
      LayoutDesk twin = new LayoutDesk();
      due = -4;
      if (treed.count(3) > 0) {
        Bench.put(twin, source());
        twin.read();
        due = twin.write(form);
        written = due >= 0 ? Bench.text(twin) : null;
      }
    }
    BENCH.due("write()", desk.write(form), due);
    if (written != null) {
      bytes.setLength(0);
      bytes.append(written);
    }
  }

  private String source() {
    return Bench.text(treed);
  }

  private void ofTheRead() {
    int i = some(latest.count(1));
    int what = some(5);
    BENCH.due("lexeme()", desk.lexeme(i, what), latest.lexeme(i, what));
    int token = some(latest.count(2));
    BENCH.due("token()", desk.token(token), latest.token(token));
    BENCH.due("fault()", desk.fault(), latest.fault());
    BENCH.due("count(1)", desk.count(1), latest.count(1));
    BENCH.due("count(2)", desk.count(2), latest.count(2));
  }

  private void ofTheTree() {
    int i = some(treed.count(3));
    int what = some(4);
    int k = some(4);
    BENCH.due("node()", desk.node(i, what), treed.node(i, what));
    BENCH.due("letter()", desk.letter(i, k), treed.letter(i, k));
    BENCH.due("child()", desk.child(i, k), treed.child(i, k));
    BENCH.due("digest()", desk.digest(), treed.digest());
  }
}
