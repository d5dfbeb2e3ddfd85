import java.util.ArrayList;
import java.util.List;

/**
 * Tells for any grammar which terminal can stand behind those that came. A rule is a text: the
 * letter of what it makes, then what it is made of; small letters and signs are terminals.
 */
final class Earley {
  private final String[] rules;
  private final boolean[] empty = new boolean[128];
  private final List<List<int[]>> sets = new ArrayList<>();

  Earley(String[] rules) {
    this.rules = rules;
    for (int turn = 0; turn < rules.length; turn++) {
      for (String rule : rules) {
        boolean all = true;
        for (int k = 1; k < rule.length(); k++) {
          all &= empty[rule.charAt(k)];
        }
        empty[rule.charAt(0)] |= all;
      }
    }
    sets.add(new ArrayList<>());
    predict('P');
    complete();
  }

  boolean canStand(char terminal) {
    for (int[] item : last()) {
      if (next(item) == terminal) {
        return true;
      }
    }
    return false;
  }

  boolean isWhole() {
    for (int[] item : last()) {
      if (next(item) == 0 && item[2] == 0 && rules[item[0]].charAt(0) == 'P') {
        return true;
      }
    }
    return false;
  }

  void push(char terminal) {
    List<int[]> before = last();
    sets.add(new ArrayList<>());
    for (int[] item : before) {
      if (next(item) == terminal) {
        add(item[0], item[1] + 1, item[2]);
      }
    }
    complete();
  }

  private List<int[]> last() {
    return sets.get(sets.size() - 1);
  }

  private char next(int[] item) {
    String rule = rules[item[0]];
    return item[1] < rule.length() ? rule.charAt(item[1]) : 0;
  }

  private void add(int rule, int dot, int from) {
    for (int[] item : last()) {
      if (item[0] == rule && item[1] == dot && item[2] == from) {
        return;
      }
    }
    last().add(new int[] {rule, dot, from});
  }

  private void predict(char what) {
    for (int r = 0; r < rules.length; r++) {
      if (rules[r].charAt(0) == what) {
        add(r, 1, sets.size() - 1);
      }
    }
  }

  private void complete() {
    for (int i = 0; i < last().size(); i++) {
      int[] item = last().get(i);
      char next = next(item);
      if (next == 0) {
        char made = rules[item[0]].charAt(0);
        List<int[]> from = sets.get(item[2]);
        for (int k = 0; k < from.size(); k++) {
          int[] waiting = from.get(k);
          if (next(waiting) == made) {
            add(waiting[0], waiting[1] + 1, waiting[2]);
          }
        }
      } else if (next >= 'A' && next <= 'Z') {
        predict(next);
        if (empty[next]) {
          add(item[0], item[1] + 1, item[2]);
        }
      }
    }
  }
}
