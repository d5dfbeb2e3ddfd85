import java.util.ArrayList;
import java.util.List;
import java.util.Random;

/**
 * Trees by chance, laid out by chance: read() finds them, write() writes them as a second writer
 * does, and they are read as they were. Texts that were spoilt: read() puts in what the Oracle does.
 */
public final class RandomTest {
  private static final Bench BENCH = new Bench();
  private static final int TREES = 6000;
  private static final int SPOILT = 4;
  private static final int SOUPS = 20000;
  private static final int DEEP = 3000;

  public static void main(String[] args) {
    int read = 0;
    int faults = 0;
    int whole = 0;
    for (int seed = 0; seed < TREES; seed++) {
      Maker maker = new Maker(seed);
      Maker.Node program = maker.program(1 + seed % 5);
      String text = maker.laidOut(program);
      if (text.length() > 1200) {
        continue;
      }
      read++;
      tree(text, program);
      oracle(text);
      Random chance = new Random(seed + 1000000L);
      for (int k = 0; k < SPOILT && text.length() < 400; k++) {
        if (oracle(spoil(text, chance))) {
          whole++;
        } else {
          faults++;
        }
      }
    }
    for (int seed = 0; seed < SOUPS; seed++) {
      oracle(soup(new Random(seed)));
    }
    int[] deep = new int[6];
    for (int seed = 0; seed < DEEP; seed++) {
      deepTexts(seed, deep);
    }
    System.out.println("deep texts: " + deep[0] + " whole, " + deep[4] + " with FAULT 4, " + deep[5] + " with 5");
    System.out.println(read + " trees, " + faults + " spoilt texts with a FAULT, " + whole + " without");
    BENCH.end();
  }

  /** Some of them whole, some spoilt, about as far in as may be and further. */
  private static void deepTexts(int seed, int[] faults) {
    Maker maker = new Maker(seed);
    Maker.Node program = maker.deepProgram(8 + seed % 24);
    String text = maker.laidOut(program);
    if (text.length() > 2900) {
      return;
    }
    Random chance = new Random(seed + 2000000L);
    String[] all = {text, spoil(text, chance), spoil(text, chance)};
    for (String one : all) {
      Oracle oracle = new Oracle(one);
      if (oracle.words.size() <= 800 && one.length() <= 3000) {
        oracle(one);
        faults[oracle.fault]++;
        if (one.equals(text) && oracle.fault == 0) {
          tree(text, program);
        }
      }
    }
  }

  private static void tree(String text, Maker.Node program) {
    LayoutDesk x = Bench.desk(text);
    int nodes = x.read();
    if (nodes < 0) {
      BENCH.dueText("read() of " + text, "FAULT at " + (-100 - nodes), program.told());
      return;
    }
    BENCH.dueText("TREE of " + text, Bench.tree(x, 0), program.told());
    rows(x, nodes);
    long digest = x.digest();
    for (int form = 0; form < 2; form++) {
      String want = form == 0 ? braces(program) : columns(program);
      if (want.length() > 3000) {
        BENCH.due("write() of more than 3000", x.write(form), LayoutDesk.FULL);
        continue;
      }
      BENCH.due("write(" + form + ") of " + text, x.write(form), want.length());
      BENCH.dueText("written of " + text, Bench.text(x), want);
      BENCH.due("read() of " + want, x.read(), nodes);
      BENCH.due("digest() of " + want, x.digest(), digest);
    }
  }

  /** What node(), child() and digest() tell fits together. */
  private static void rows(LayoutDesk x, int nodes) {
    long h = 17;
    for (int i = 0; i < nodes; i++) {
      int all = 1;
      for (int k = 0; x.child(i, k) >= 0; k++) {
        BENCH.due("the NODE that NODE " + x.child(i, k) + " is in", x.node(x.child(i, k), 1), i);
        BENCH.due("the order of the NODES", x.child(i, k), i + all);
        all += x.node(x.child(i, k), 2);
      }
      BENCH.due("how many NODE " + i + " is", x.node(i, 2), all);
      for (int what = 0; what < 5; what++) {
        h = 31 * h + x.node(i, what);
      }
      for (int k = 0; k < x.node(i, 4); k++) {
        h = 31 * h + x.letter(i, k);
      }
    }
    BENCH.due("digest()", x.digest(), h);
  }

  /** Whether there is no FAULT. */
  private static boolean oracle(String text) {
    Oracle oracle = new Oracle(text);
    LayoutDesk x = Bench.desk(text);
    int answer = x.read();
    boolean whole = oracle.faultPlace < 0;
    BENCH.due("FAULT of " + text, x.fault(), oracle.fault);
    BENCH.due("place of the FAULT of " + text, answer < 0 ? -100 - answer : -1, oracle.faultPlace);
    StringBuilder due = new StringBuilder();
    for (int token : oracle.tokens) {
      due.append(due.length() == 0 ? "" : " ").append(token);
    }
    BENCH.dueText("TOKENS of " + text, Bench.tokens(x), due.toString());
    BENCH.due("count(1) of " + text, x.count(1), oracle.words.size());
    for (int i = 0; i < oracle.words.size(); i++) {
      BENCH.due("place of LEXEME " + i + " of " + text, x.lexeme(i, 0), oracle.places.get(i));
      BENCH.due("bytes of LEXEME " + i + " of " + text, x.lexeme(i, 3), oracle.words.get(i).length());
      BENCH.due("OPENING of LEXEME " + i + " of " + text, x.lexeme(i, 4), oracle.openings.get(i));
      BENCH.due("INDENT of LEXEME " + i + " of " + text, x.lexeme(i, 5), oracle.indents.get(i));
    }
    return whole;
  }

  private static final String[] WORDS = {
    "a", "B", "1", "+", "(", ")", "[", "]", ",", ";", "{", "}", "\\", "=", "->", "<-", "let", "in",
    "where", "do", "of", "case", "if", "then", "else"};

  /** Words by chance, most of them behind a beginning that lets many stand. */
  private static String soup(Random chance) {
    String[] beginnings = {"", "f = ", "f = do ", "f = if do a\n  ", "f = case a of b -> ", "{f = do ",
      "f = (do let a = ", "f = do\n   let a = b\n   ", "f = do if a\n       ", "{f = do {let {a = do\n  b"};
    StringBuilder text = new StringBuilder(beginnings[chance.nextInt(beginnings.length)]);
    for (int n = chance.nextInt(14); n > 0; n--) {
      text.append(WORDS[chance.nextInt(WORDS.length)]);
      text.append(chance.nextInt(5) == 0 ? "\n" + " ".repeat(chance.nextInt(10)) : " ");
    }
    return text.toString();
  }

  /** One to three words are put in, taken away or changed, or blanks and lines are. */
  private static String spoil(String text, Random chance) {
    List<String> parts = new ArrayList<>();
    for (String part : text.replaceAll("--[^-+*/<>=:!&|.#\\n][^\\n]*|\\{-[^}]*-\\}", " ")
        .split("(?<=[ \\n])|(?=[ \\n])")) {
      parts.add(part);
    }
    for (int n = 1 + chance.nextInt(3); n > 0; n--) {
      int at = chance.nextInt(parts.size());
      String word = " " + WORDS[chance.nextInt(WORDS.length)] + " ";
      switch (chance.nextInt(6)) {
        case 0:
          parts.add(at, word);
          break;
        case 1:
          parts.set(at, word);
          break;
        case 2:
          parts.set(at, " ");
          break;
        case 3:
          parts.add(at, "\n" + " ".repeat(chance.nextInt(8)));
          break;
        case 4:
          parts.set(at, parts.get(at).equals("\n") ? " " : parts.get(at));
          break;
        default:
          parts.add(at, parts.get(at).equals(" ") ? " ".repeat(1 + chance.nextInt(3)) : word);
          break;
      }
    }
    return String.join("", parts);
  }

  private static void bracesTo(Maker.Node node, List<String> all) {
    List<Maker.Node> parts = node.parts;
    int last = parts.size() - 1;
    switch (node.kind) {
      case "PROGRAM":
      case "BLOCK":
        separated(parts, "{", ";", "}", all);
        break;
      case "BRACKETS":
      case "TUPLE":
        separated(parts, "(", ",", ")", all);
        break;
      case "LIST":
        separated(parts, "[", ",", "]", all);
        break;
      case "DECLARATION":
      case "LAMBDA":
      case "ALTERNATIVE":
      case "TAKING":
        boolean where = parts.get(last).kind.equals("BLOCK");
        if (node.kind.equals("DECLARATION")) {
          all.add(node.name);
        } else if (node.kind.equals("LAMBDA")) {
          all.add("\\");
        }
        for (int k = 0; k <= last; k++) {
          if (where && k == last) {
            all.add("where");
          } else if (k == (where ? last - 1 : last)) {
            all.add(node.kind.equals("DECLARATION") ? "=" : node.kind.equals("TAKING") ? "<-" : "->");
          }
          bracesTo(parts.get(k), all);
        }
        break;
      case "LET":
      case "LETTING":
        worded(parts, all, "let", "in");
        break;
      case "IF":
        worded(parts, all, "if", "then", "else");
        break;
      case "CASE":
        worded(parts, all, "case", "of");
        break;
      case "DO":
        worded(parts, all, "do");
        break;
      default:
        if (node.isLeaf()) {
          all.add(node.name);
        }
        for (Maker.Node part : parts) {
          bracesTo(part, all);
        }
        break;
    }
  }

  private static void worded(List<Maker.Node> parts, List<String> all, String... words) {
    for (int k = 0; k < parts.size(); k++) {
      all.add(words[k]);
      bracesTo(parts.get(k), all);
    }
  }

  private static void separated(List<Maker.Node> parts, String opener, String part, String closer,
      List<String> all) {
    all.add(opener);
    for (int k = 0; k < parts.size(); k++) {
      if (k > 0) {
        all.add(part);
      }
      bracesTo(parts.get(k), all);
    }
    all.add(closer);
  }

  private static String braces(Maker.Node program) {
    List<String> all = new ArrayList<>();
    bracesTo(program, all);
    return String.join(" ", all);
  }

  /** The TOKENS with braces, whose braces become lines. */
  private static String columns(Maker.Node program) {
    List<String> all = new ArrayList<>();
    bracesTo(program, all);
    if (all.size() == 2) {
      return "";
    }
    StringBuilder text = new StringBuilder();
    List<Integer> open = new ArrayList<>();
    boolean ended = false;
    boolean begins = true;
    for (int k = 0; k < all.size(); k++) {
      String word = all.get(k);
      int column = open.isEmpty() ? -3 : open.get(open.size() - 1);
      boolean empty = word.equals("{") && all.get(k + 1).equals("}");
      if (word.equals("{") && !empty) {
        open.add(column + 4);
        if (open.size() > 1) {
          text.append('\n').append(" ".repeat(column + 3));
        }
        begins = true;
      } else if (word.equals(";")) {
        text.append('\n').append(" ".repeat(column - 1));
        begins = true;
        ended = false;
      } else if (word.equals("}")) {
        open.remove(open.size() - 1);
        ended = true;
      } else {
        if (ended) {
          text.append('\n').append(" ".repeat(column + 1));
        } else if (!begins) {
          text.append(' ');
        }
        text.append(empty ? "{ }" : word);
        k += empty ? 1 : 0;
        ended = false;
        begins = false;
      }
    }
    return text.toString();
  }
}
