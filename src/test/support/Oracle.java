import java.util.ArrayList;
import java.util.List;
import java.util.regex.Matcher;
import java.util.regex.Pattern;

/**
 * The rule of section 2 told again, word by word, over a grammar that is asked for what can stand.
 * It knows no FAULTS of section 1 and no COMMENTS within one another.
 */
final class Oracle {
  // n NAME, k CON, 0 NUMBER, o OPERATOR, > is ->, < is <-, l let, i in, w where, d do, f of, c case,
  // ? if, t then, e else, s and z a ; ahead of then and of else.
  private static final String[] GRAMMAR = {
    "P{B}", "B", "BD", "B;B", "BD;B", "DnQ=EW", "W", "Ww{B}", "Q", "QTQ",
    "EO", "EOoE", "O\\TQ>E", "Ol{B}iE", "O?EXtEYeE", "X", "Xs", "Y", "Yz", "OcEf{A}", "Od{S}", "OM",
    "MN", "MNM", "Nn", "Nk", "N0", "N()", "N(E)", "N(E,L)", "N[]", "N[L]", "LE", "LE,L",
    "A", "AC", "A;A", "AC;A", "CV>EW", "S", "SZ", "S;S", "SZ;S", "ZV<E", "Zl{B}", "ZE",
    "Tn", "Tk", "T0", "T(V)", "VT", "VkTQ"};
  private static final Pattern SPACE = Pattern.compile("\\s+|--+(?![-+*/<>=:!&|.#])[^\\n]*|\\{-(?s:.*?)-\\}");
  private static final Pattern LEXEME = Pattern.compile(
      "[a-z_][a-zA-Z0-9_']*|[A-Z][a-zA-Z0-9_']*|[0-9]+|[-+*/<>=:!&|.#]+|[()\\[\\],;{}\\\\]");

  final List<String> words = new ArrayList<>();
  final List<Integer> places = new ArrayList<>();
  final List<Integer> openings = new ArrayList<>();
  final List<Integer> indents = new ArrayList<>();
  final List<Integer> tokens = new ArrayList<>();
  private static final int MOST_OPEN = 30;

  /** The FAULT, 4 or 5; 0: none. */
  int fault = 0;
  /** Its place; -1: none. */
  int faultPlace = -1;

  private final Earley grammar = new Earley(GRAMMAR);
  private final List<Integer> contexts = new ArrayList<>();
  private final String text;

  Oracle(String text) {
    this.text = text;
    findLexemes();
    for (int i = 0; i <= words.size() && faultPlace < 0; i++) {
      if (!meet(i)) {
        fault = 4;
        faultPlace = placeOf(i);
      }
    }
    findTooFarIn();
  }

  private int placeOf(int i) {
    return i < words.size() ? places.get(i) : text.length();
  }

  /** What is too far in can stand, so it is ahead of a FAULT 4, if there is one. */
  private void findTooFarIn() {
    List<Character> terminals = new ArrayList<>();
    for (int token : tokens) {
      terminals.add(token >= 0 ? terminal(words.get(token)) : token == -10 ? '{' : token == -11 ? ';' : '}');
    }
    int first = new Depths(terminals, MOST_OPEN).token;
    if (first < 0) {
      return;
    }
    int lexeme = tokens.get(first);
    if (lexeme < 0) {
      lexeme = first == 0 ? 0 : tokens.get(first - 1) + 1;
    }
    fault = 5;
    faultPlace = placeOf(lexeme);
    tokens.subList(first, tokens.size()).clear();
  }

  private void findLexemes() {
    int p = 0;
    int line = -1;
    while (p < text.length()) {
      Matcher space = SPACE.matcher(text).region(p, text.length());
      if (space.lookingAt()) {
        p = space.end();
        continue;
      }
      Matcher lexeme = LEXEME.matcher(text).region(p, text.length());
      if (!lexeme.lookingAt()) {
        throw new IllegalStateException("no LEXEME at " + p + " of " + text);
      }
      int start = text.lastIndexOf('\n', p - 1) + 1;
      boolean opens = !lexeme.group().equals("{")
          && (words.isEmpty() || words.get(words.size() - 1).matches("let|where|do|of"));
      openings.add(opens ? p - start + 1 : -1);
      indents.add(!opens && start != line ? p - start + 1 : -1);
      words.add(lexeme.group());
      places.add(p);
      line = start;
      p = lexeme.end();
    }
  }

  private static char terminal(String word) {
    switch (word) {
      case "let": return 'l';
      case "in": return 'i';
      case "where": return 'w';
      case "do": return 'd';
      case "of": return 'f';
      case "case": return 'c';
      case "if": return '?';
      case "then": return 't';
      case "else": return 'e';
      case "=": return '=';
      case "->": return '>';
      case "<-": return '<';
      default: break;
    }
    char first = word.charAt(0);
    if (first >= 'a' && first <= 'z' || first == '_') {
      return 'n';
    }
    if (first >= 'A' && first <= 'Z') {
      return 'k';
    }
    if (first >= '0' && first <= '9') {
      return '0';
    }
    return "()[],;{}\\".indexOf(first) >= 0 ? first : 'o';
  }

  private int top() {
    return contexts.isEmpty() ? -1 : contexts.get(contexts.size() - 1);
  }

  private void pop() {
    contexts.remove(contexts.size() - 1);
  }

  private boolean put(char terminal, int token) {
    if (!grammar.canStand(terminal)) {
      return false;
    }
    grammar.push(terminal);
    tokens.add(token);
    return true;
  }

  /** A ; ahead of a word, which is empty if another TOKEN is behind it. */
  private boolean putPart(String behind, int token) {
    if (behind.equals("then") && put('s', token) || behind.equals("else") && put('z', token)) {
      return true;
    }
    return put(';', token);
  }

  private boolean meet(int i) {
    boolean end = i == words.size();
    boolean endOpens = end && (i == 0 || words.get(i - 1).matches("let|where|do|of"));
    int opening = end ? (endOpens ? 0 : -1) : openings.get(i);
    int indent = end ? -1 : indents.get(i);
    if (opening >= 0) {
      if (!put('{', -10)) {
        return false;
      }
      if (opening > Math.max(0, top())) {
        contexts.add(opening);
      } else {
        if (!put('}', -12)) {
          return false;
        }
        indent = opening;
      }
    }
    while (indent >= 0 && !contexts.isEmpty() && indent <= top()) {
      if (indent == top()) {
        if (!putPart(end ? "" : words.get(i), -11)) {
          return false;
        }
        break;
      }
      if (!put('}', -12)) {
        return false;
      }
      pop();
    }
    return end ? meetEnd() : meetWord(i);
  }

  private boolean meetEnd() {
    while (top() > 0) {
      if (!put('}', -12)) {
        return false;
      }
      pop();
    }
    return contexts.isEmpty() && grammar.isWhole();
  }

  private boolean meetWord(int i) {
    char terminal = terminal(words.get(i));
    if (terminal == '}') {
      if (top() != 0 || !put('}', i)) {
        return false;
      }
      pop();
      return true;
    }
    if (terminal == '{') {
      contexts.add(0);
      return put('{', i);
    }
    while (true) {
      if (terminal == ';' ? putPart(wordBehind(i), i) : put(terminal, i)) {
        return true;
      }
      if (top() <= 0 || !put('}', -13)) {
        return false;
      }
      pop();
    }
  }

  private String wordBehind(int i) {
    if (i + 1 >= words.size() || indents.get(i + 1) >= 0 && indents.get(i + 1) <= top()) {
      return "";
    }
    return words.get(i + 1);
  }
}
