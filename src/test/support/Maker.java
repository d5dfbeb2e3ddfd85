import java.util.ArrayList;
import java.util.List;
import java.util.Random;

/** Makes trees by chance and lays them out by chance, so that each text has the tree it was made of. */
final class Maker {
  static final class Node {
    final String kind;
    final String name;
    final List<Node> parts = new ArrayList<>();

    Node(String kind, String name) {
      this.kind = kind;
      this.name = name;
    }

    Node with(Node... more) {
      parts.addAll(List.of(more));
      return this;
    }

    boolean isLeaf() {
      return kind.equals("NAME") || kind.equals("CON") || kind.equals("NUMBER")
          || kind.equals("OPERATOR");
    }

    boolean holds(String what) {
      if (kind.equals(what)) {
        return true;
      }
      for (Node part : parts) {
        if (part.holds(what)) {
          return true;
        }
      }
      return false;
    }

    /** As Bench.tree tells it. */
    String told() {
      if (isLeaf()) {
        return name;
      }
      StringBuilder all = new StringBuilder(kind);
      if (!name.isEmpty()) {
        all.append(':').append(name);
      }
      all.append('(');
      for (int k = 0; k < parts.size(); k++) {
        all.append(k == 0 ? "" : " ").append(parts.get(k).told());
      }
      return all.append(')').toString();
    }
  }

  private static final String[] NAMES = {"a", "b", "x'", "_", "lets", "foo_1", "doX", "inn"};
  private static final String[] CONS = {"A", "Bc", "C'", "Do"};
  private static final String[] OPERATORS = {"+", "-", "*", "<", "==", ":", ".", "|>", "-->", "<--"};

  private final Random chance;

  Maker(long seed) {
    chance = new Random(seed);
  }

  private boolean once(int in) {
    return chance.nextInt(in) == 0;
  }

  private String one(String[] of) {
    return of[chance.nextInt(of.length)];
  }

  private Node name() {
    return new Node("NAME", one(NAMES));
  }

  private Node con() {
    return new Node("CON", one(CONS));
  }

  private Node number() {
    return new Node("NUMBER", Integer.toString(once(5) ? chance.nextInt(1000000) : chance.nextInt(10)));
  }

  Node program(int depth) {
    Node program = new Node("PROGRAM", "");
    for (int n = chance.nextInt(4); n > 0; n--) {
      program.with(declaration(depth));
    }
    return program;
  }

  /** A declaration with so many things within one another, of which many are lets in steps. */
  Node deepProgram(int wraps) {
    Node inner = expression(1);
    for (int k = 0; k < wraps; k++) {
      inner = wrapped(inner);
    }
    return new Node("PROGRAM", "").with(declared(inner));
  }

  private Node declared(Node expression) {
    return new Node("DECLARATION", one(NAMES)).with(expression);
  }

  private Node blockOf(Node... parts) {
    return new Node("BLOCK", "").with(parts);
  }

  private Node wrapped(Node inner) {
    switch (chance.nextInt(14)) {
      case 0:
      case 1:
        return new Node("LIST", "").with(name(), inner);
      case 2:
      case 3:
        return new Node("DO", "").with(blockOf(
            new Node("LET", "").with(blockOf(declared(inner)), name()), name()));
      case 4:
        return new Node("DO", "").with(blockOf(
            name(), new Node("LET", "").with(blockOf(declared(name())), inner)));
      case 5:
      case 6:
        return new Node("DO", "").with(blockOf(
            new Node("LETTING", "").with(blockOf(declared(inner))), name()));
      case 7:
        return new Node("LET", "").with(blockOf(declared(inner)), name());
      case 8:
        return new Node("LAMBDA", "").with(pattern(1), inner);
      case 9:
        return once(2) ? new Node("IF", "").with(inner, name(), name())
            : new Node("IF", "").with(name(), name(), inner);
      case 10:
        return new Node("CASE", "").with(name(), blockOf(new Node("ALTERNATIVE", "").with(name(), inner)));
      default:
        return new Node("BRACKETS", "").with(inner);
    }
  }

  private Node declaration(int depth) {
    Node declaration = new Node("DECLARATION", one(NAMES));
    while (once(3)) {
      declaration.with(pattern(depth));
    }
    declaration.with(expression(depth));
    if (depth > 0 && once(4)) {
      declaration.with(block("DECLARATION", depth - 1));
    }
    return declaration;
  }

  private Node block(String of, int depth) {
    Node block = new Node("BLOCK", "");
    for (int n = chance.nextInt(4); n > 0; n--) {
      if (of.equals("DECLARATION")) {
        block.with(declaration(depth));
      } else if (of.equals("ALTERNATIVE")) {
        block.with(alternative(depth));
      } else {
        block.with(step(depth));
      }
    }
    return block;
  }

  private Node alternative(int depth) {
    Node alternative = new Node("ALTERNATIVE", "").with(wholePattern(depth), expression(depth));
    return depth > 0 && once(4) ? alternative.with(block("DECLARATION", depth - 1)) : alternative;
  }

  private Node step(int depth) {
    switch (chance.nextInt(4)) {
      case 0:
        return new Node("TAKING", "").with(wholePattern(depth), expression(depth));
      case 1:
        return new Node("LETTING", "").with(block("DECLARATION", depth - 1));
      default:
        return expression(depth);
    }
  }

  private Node pattern(int depth) {
    if (depth > 0 && once(3)) {
      return new Node("BRACKETS", "").with(wholePattern(depth - 1));
    }
    return once(3) ? con() : once(3) ? number() : name();
  }

  private Node wholePattern(int depth) {
    if (once(2)) {
      return pattern(depth);
    }
    Node applied = new Node("APPLIED", "").with(con(), pattern(depth));
    return once(2) ? applied.with(pattern(depth)) : applied;
  }

  private Node expression(int depth) {
    if (depth <= 0 || !once(3)) {
      return operand(depth, false);
    }
    Node chain = new Node("CHAIN", "").with(operand(depth - 1, true));
    do {
      Node operator = new Node("OPERATOR", one(OPERATORS));
      chain.with(operator, operand(depth - 1, true));
    } while (once(3));
    // What would take the OPERATORS behind it may only be the last.
    if (once(3)) {
      chain.with(new Node("OPERATOR", one(OPERATORS)), operand(depth - 1, false));
    }
    return chain;
  }

  private Node operand(int depth, boolean closed) {
    if (depth <= 0) {
      return once(3) ? new Node("APPLIED", "").with(atom(0), atom(0)) : atom(0);
    }
    switch (chance.nextInt(closed ? 5 : 8)) {
      case 0:
        return new Node("CASE", "").with(expression(depth - 1), block("ALTERNATIVE", depth - 1));
      case 1:
        return new Node("DO", "").with(block("STEP", depth - 1));
      case 2:
        Node applied = new Node("APPLIED", "").with(atom(depth), atom(depth));
        return once(2) ? applied.with(atom(depth)) : applied;
      case 5:
        Node lambda = new Node("LAMBDA", "").with(pattern(depth));
        while (once(3)) {
          lambda.with(pattern(depth));
        }
        return lambda.with(expression(depth - 1));
      case 6:
        return new Node("LET", "").with(block("DECLARATION", depth - 1), expression(depth - 1));
      case 7:
        return new Node("IF", "").with(expression(depth - 1), expression(depth - 1), expression(depth - 1));
      default:
        return atom(depth);
    }
  }

  private Node atom(int depth) {
    if (depth <= 0 || once(2)) {
      return once(4) ? con() : once(4) ? number() : name();
    }
    String[] kinds = {"BRACKETS", "TUPLE", "LIST"};
    Node row = new Node(one(kinds), "");
    int n = row.kind.equals("BRACKETS") ? 1 : chance.nextInt(4);
    for (int k = 0; k < n + (row.kind.equals("TUPLE") && n == 1 ? 1 : 0); k++) {
      row.with(expression(depth - 1));
    }
    return row;
  }

  /** A text of the tree, laid out by chance. */
  String laidOut(Node program) {
    return new Layout(program).all.toString();
  }

  private final class Layout {
    final StringBuilder all = new StringBuilder();
    private int column = 1;
    /** The least COLUMN of the blocks without braces that ended behind the latest TOKEN. */
    private int ended = 0;
    /** An in in the same line would belong to a let of such a block. */
    private boolean lettingEnded = false;
    /** The next TOKEN is the first of a block and stands where it is to stand. */
    private boolean placed = false;

    Layout(Node program) {
      if (program.parts.isEmpty() && once(2)) {
        return;
      }
      int start = once(2) || program.parts.isEmpty() ? 0 : 1 + chance.nextInt(3);
      if (start > 1) {
        spaces(start - 1);
      }
      block(program, 0, start, true);
      if (once(2)) {
        raw("\n");
      }
    }

    private void raw(String part) {
      all.append(part);
      for (int k = 0; k < part.length(); k++) {
        column = part.charAt(k) == '\n' ? 1 : column + 1;
      }
    }

    private void spaces(int n) {
      raw(" ".repeat(n));
    }

    private void line(int to) {
      if (once(8)) {
        raw(" -- in a do ;");
      }
      raw("\n");
      if (once(10)) {
        raw("  {- let\n -}\n");
      }
      spaces(to - 1);
      ended = 0;
      lettingEnded = false;
    }

    private void token(String word, int m) {
      if (placed) {
        placed = false;
        raw(word);
        return;
      }
      boolean shuts = word.matches("[)\\],]|then|else|of") || word.equals("in") && !lettingEnded;
      if (ended > 0 && !(shuts && once(2))) {
        line(m + 1 + chance.nextInt(ended - m - 1));
      } else if (m > 0 && word.matches("then|else") && once(4)) {
        line(m);
      } else if (word.matches("then|else") && ended == 0 && once(4)) {
        raw(" ; ");
      } else if (once(9)) {
        line(m + 1 + chance.nextInt(6));
      } else {
        gap(word);
      }
      raw(word);
      ended = 0;
      lettingEnded = false;
    }

    private void gap(String word) {
      char before = all.length() == 0 ? ' ' : all.charAt(all.length() - 1);
      boolean sign = "()[],;{}\\ \n".indexOf(before) >= 0 && before != '{' || "()[],;}\\".contains(word);
      if (sign && once(2)) {
        return;
      }
      spaces(once(5) ? 3 : 1);
      if (once(30)) {
        raw("{- of -} ");
      }
    }

    private void block(Node block, int m, int fixed, boolean whole) {
      boolean braces = block.parts.isEmpty() || (whole ? fixed == 0 : once(3));
      if (braces) {
        token("{", m);
        while (once(6)) {
          token(";", 0);
        }
        for (int k = 0; k < block.parts.size(); k++) {
          if (k > 0) {
            token(";", 0);
            while (once(6)) {
              token(";", 0);
            }
          }
          node(block.parts.get(k), 0);
        }
        token("}", 0);
        return;
      }
      int at = fixed;
      if (at == 0 && once(2)) {
        at = m + 2 + chance.nextInt(4);
        line(at);
      } else if (at == 0) {
        // Behind a } the line may begin further out than the block around.
        spaces(Math.max(1, m + 2 - column));
        at = column;
      }
      placed = true;
      for (int k = 0; k < block.parts.size(); k++) {
        if (k > 0 && ended == 0 && once(2)) {
          token(";", at);
        } else if (k > 0) {
          line(at);
          placed = true;
        }
        node(block.parts.get(k), at);
      }
      ended = at;
      lettingEnded = block.holds("LETTING");
    }

    private void blockBehind(String word, Node block, int m) {
      token(word, m);
      block(block, m, 0, false);
    }

    private void body(Node node, String sign, int m) {
      int last = node.parts.size() - 1;
      Node where = node.parts.get(last).kind.equals("BLOCK") ? node.parts.get(last) : null;
      int expression = where == null ? last : last - 1;
      for (int k = 0; k < expression; k++) {
        node(node.parts.get(k), m);
      }
      token(sign, m);
      node(node.parts.get(expression), m);
      if (where != null) {
        blockBehind("where", where, m);
      }
    }

    private void row(Node node, String opener, String closer, int m) {
      token(opener, m);
      for (int k = 0; k < node.parts.size(); k++) {
        if (k > 0) {
          token(",", m);
        }
        node(node.parts.get(k), m);
      }
      token(closer, m);
    }

    private void node(Node node, int m) {
      switch (node.kind) {
        case "DECLARATION":
          token(node.name, m);
          body(node, "=", m);
          break;
        case "ALTERNATIVE":
          body(node, "->", m);
          break;
        case "TAKING":
          body(node, "<-", m);
          break;
        case "LAMBDA":
          token("\\", m);
          body(node, "->", m);
          break;
        case "LETTING":
          blockBehind("let", node.parts.get(0), m);
          break;
        case "LET":
          blockBehind("let", node.parts.get(0), m);
          token("in", m);
          node(node.parts.get(1), m);
          break;
        case "DO":
          blockBehind("do", node.parts.get(0), m);
          break;
        case "CASE":
          token("case", m);
          node(node.parts.get(0), m);
          blockBehind("of", node.parts.get(1), m);
          break;
        case "IF":
          token("if", m);
          node(node.parts.get(0), m);
          token("then", m);
          node(node.parts.get(1), m);
          token("else", m);
          node(node.parts.get(2), m);
          break;
        case "BRACKETS":
        case "TUPLE":
          row(node, "(", ")", m);
          break;
        case "LIST":
          row(node, "[", "]", m);
          break;
        default:
          if (node.isLeaf()) {
            token(node.name, m);
          }
          for (Node part : node.parts) {
            node(part, m);
          }
          break;
      }
    }
  }
}
