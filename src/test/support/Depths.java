import java.util.ArrayList;
import java.util.List;

/**
 * FAULT 5 of section 2 told again over the TOKENS of the Oracle, which knows no limit: a pile of what
 * is open, in which each TOKEN ends what cannot go on behind it.
 */
final class Depths {
  /** The number of the TOKEN that would be one too many; -1: none. */
  final int token;

  // ( [ {, operands as the Oracle's letters; T an if behind then, E behind else, L a let behind in.
  private final StringBuilder open = new StringBuilder();
  /** The words of the blocks that are open; p is the program's. */
  private final StringBuilder words = new StringBuilder();
  private final List<Character> all;

  Depths(List<Character> terminals, int most) {
    all = new ArrayList<>(terminals);
    int first = -1;
    for (int i = 0; i < all.size() && first < 0; i++) {
      meet(i);
      if (open.length() > most) {
        first = i;
      }
    }
    token = first;
  }

  private char at(int i) {
    return i >= 0 && i < all.size() ? all.get(i) : 0;
  }

  private char top() {
    return open.length() == 0 ? 0 : open.charAt(open.length() - 1);
  }

  private void pop() {
    open.setLength(open.length() - 1);
  }

  private void endUpTo(String these) {
    while (these.indexOf(top()) < 0) {
      pop();
    }
  }

  private void become(char from, char to) {
    endUpTo(String.valueOf(from));
    pop();
    open.append(to);
  }

  private void meet(int i) {
    char terminal = at(i);
    switch (terminal) {
      case '(':
      case '[':
      case '\\':
      case '?':
      case 'c':
      case 'd':
        open.append(terminal);
        break;
      case 'l':
        if (isOperand(i)) {
          open.append('l');
        }
        break;
      case '{':
        open.append('{');
        words.append(i == 0 ? 'p' : at(i - 1) == 'l' && !isOperand(i - 1) ? 's' : at(i - 1));
        break;
      case '}':
        endBlock();
        break;
      case ')':
      case ']':
        endUpTo("([");
        pop();
        break;
      case ',':
        endUpTo("([");
        break;
      case 't':
        become('?', 'T');
        break;
      case 'e':
        become('T', 'E');
        break;
      case 'i':
        become('l', 'L');
        break;
      case 'f':
        endUpTo("c");
        break;
      case 'w':
        endUpTo("{");
        break;
      case ';':
        if (!isAheadOfBranch(i)) {
          endUpTo("{");
        }
        break;
      default:
        break;
    }
  }

  private void endBlock() {
    endUpTo("{");
    pop();
    char word = words.charAt(words.length() - 1);
    words.setLength(words.length() - 1);
    if (word == 'd' || word == 'f') {
      pop();
    }
  }

  private boolean isAheadOfBranch(int i) {
    char awaited = at(i + 1) == 't' ? '?' : at(i + 1) == 'e' ? 'T' : 0;
    String here = open.substring(open.lastIndexOf("{") + 1);
    here = here.substring(Math.max(here.lastIndexOf('('), here.lastIndexOf('[')) + 1);
    return awaited != 0 && here.indexOf(awaited) >= 0;
  }

  /** A let that does not begin a step is; one that does is, if in comes behind its block. */
  private boolean isOperand(int let) {
    if (at(let - 1) != '{' && at(let - 1) != ';') {
      return true;
    }
    int braces = 0;
    for (int i = let + 1; i < all.size(); i++) {
      braces += at(i) == '{' ? 1 : at(i) == '}' ? -1 : 0;
      if (braces == 0) {
        return at(i + 1) == 'i';
      }
    }
    return false;
  }
}
