import java.util.Random;
import java.util.regex.Matcher;
import java.util.regex.Pattern;

/** Bytes by chance: the LEXEMES and the FAULT of section 1 are those that a second reading finds. */
public final class LexemeRandomTest {
  private static final Bench BENCH = new Bench();
  private static final int TEXTS = 60000;
  private static final int LONG_TEXTS = 400;

  // The bytes that a text is made of; the first are rich in what begins and ends COMMENTS.
  private static final String[] BYTES = {
    "-{}", "--{}|a \n", "-{}a\n ", "{-{-{-}-} ", "aA1' _", "aaaaaaaaaaaA0'+ ", "11111 1a", "+-*<>=:. a",
    "()[],;{}\\a =", "abcdefghijklmnopqrstuvwxyzABCXYZ019_' \n+-*/<>=:!&|.#()[],;{}\\", "a \n$'\t{-}"};
  private static final String[] PARTS = {
    "{-", "-}", "--", "let", "in", "where", "do", "of", "case", "if", "then", "else", "->", "<-", "=",
    "\n", "\n  ", " ", "a", "B", "12", "abcdefghijkl", "123456", "<=>", "{", "}", ";", "'", "_"};

  private static final Pattern BLANK = Pattern.compile("[ \\n]+");
  private static final Pattern LINE_COMMENT = Pattern.compile("--+(?![-+*/<>=:!&|.#])[^\\n]*");
  private static final Pattern COMMENT_PART = Pattern.compile("\\{-|-\\}");
  private static final Pattern[] KINDS = {
    Pattern.compile("[a-z_][a-zA-Z0-9_']*"), Pattern.compile("[A-Z][a-zA-Z0-9_']*"),
    Pattern.compile("[0-9]+"), Pattern.compile("[-+*/<>=:!&|.#]+"), Pattern.compile("[()\\[\\],;{}\\\\]")};
  private static final int[] MOST = {12, 12, 6, 3, 1};
  private static final int MOST_LEXEMES = 800;
  private static final int MOST_WITHIN = 6;

  // What the second reading found.
  private static final StringBuilder LEXEMES = new StringBuilder();
  private static final StringBuilder COLUMNS = new StringBuilder();
  private static int fault;
  private static int faultPlace;
  private static int many;
  // The place of the byte 10 ahead of the line of the LEXEME before; -1 is the first line.
  private static int line;
  private static String before;

  public static void main(String[] args) {
    int[] faults = new int[6];
    for (int seed = 0; seed < TEXTS; seed++) {
      Random chance = new Random(seed);
      faults[compare(seed % 2 == 0 ? bytes(chance, 40) : parts(chance, 20))]++;
    }
    for (int seed = 0; seed < LONG_TEXTS; seed++) {
      faults[compare(longText(new Random(seed)))]++;
    }
    System.out.println("FAULTS: " + faults[1] + " of 1, " + faults[2] + " of 2, " + faults[3] + " of 3, "
        + faults[5] + " of 5, " + faults[0] + " without");
    BENCH.end();
  }

  private static String bytes(Random chance, int most) {
    String from = BYTES[chance.nextInt(BYTES.length)];
    StringBuilder text = new StringBuilder();
    for (int n = chance.nextInt(most); n > 0; n--) {
      text.append(chance.nextInt(200) == 0 ? (char) chance.nextInt(256) : from.charAt(chance.nextInt(from.length())));
    }
    return text.toString();
  }

  private static String parts(Random chance, int most) {
    StringBuilder text = new StringBuilder();
    int comments = chance.nextInt(3) == 0 ? 2 : PARTS.length;
    for (int n = chance.nextInt(most); n > 0; n--) {
      text.append(PARTS[chance.nextInt(chance.nextInt(2) == 0 ? comments : PARTS.length)]);
    }
    return text.toString();
  }

  /** About 800 LEXEMES, and a COMMENT or a FAULT behind some of them. */
  private static String longText(Random chance) {
    StringBuilder text = new StringBuilder();
    for (int n = 790 + chance.nextInt(14); n > 0; n--) {
      text.append("aB1;)".charAt(chance.nextInt(5))).append(chance.nextInt(9) == 0 ? '\n' : ' ');
    }
    String[] last = {"", "-- a", "{- a -}", "$", "1234567", "{-", "a", "do"};
    return text + last[chance.nextInt(last.length)];
  }

  /** The FAULT of section 1; 0: none. */
  private static int compare(String text) {
    readAgain(text);
    LayoutDesk desk = Bench.desk(text);
    int answer = desk.read();
    if (fault != 0) {
      BENCH.due("read() of " + text, answer, -100 - faultPlace);
      BENCH.due("fault() of " + text, desk.fault(), fault);
      BENCH.due("count(2) of " + text, desk.count(2), 0);
    } else {
      BENCH.due("a FAULT of section 1 of " + text, desk.fault() > 0 && desk.fault() < 4 ? 1 : 0, 0);
    }
    BENCH.due("count(1) of " + text, desk.count(1), many);
    BENCH.dueText("LEXEMES of " + text, Bench.lexemes(desk), LEXEMES.toString());
    BENCH.dueText("columns of " + text, Bench.columns(desk), COLUMNS.toString());
    return fault;
  }

  private static void readAgain(String text) {
    LEXEMES.setLength(0);
    COLUMNS.setLength(0);
    fault = 0;
    many = 0;
    line = -2;
    before = "";
    int p = 0;
    while (p < text.length() && fault == 0) {
      int blank = length(BLANK, text, p);
      int comment = length(LINE_COMMENT, text, p);
      if (blank > 0 || comment > 0) {
        p += Math.max(blank, comment);
      } else if (text.startsWith("{-", p)) {
        p = behindComment(text, p);
      } else {
        p = behindLexeme(text, p);
      }
    }
  }

  private static int length(Pattern pattern, String text, int p) {
    Matcher matcher = pattern.matcher(text).region(p, text.length());
    return matcher.lookingAt() ? matcher.end() - p : 0;
  }

  private static void refuse(int number, int place) {
    fault = number;
    faultPlace = place;
  }

  private static int behindComment(String text, int start) {
    Matcher part = COMMENT_PART.matcher(text).region(start, text.length());
    int within = 0;
    while (part.find()) {
      within += part.group().equals("{-") ? 1 : -1;
      if (within > MOST_WITHIN) {
        break;
      }
      if (within == 0) {
        return part.end();
      }
    }
    refuse(3, start);
    return start;
  }

  private static int behindLexeme(String text, int p) {
    int kind = 0;
    while (kind < KINDS.length && length(KINDS[kind], text, p) == 0) {
      kind++;
    }
    if (kind == KINDS.length) {
      refuse(1, p);
      return p;
    }
    int bytes = kind == 4 ? 1 : length(KINDS[kind], text, p);
    if (bytes > MOST[kind]) {
      refuse(2, p);
      return p;
    }
    if (many == MOST_LEXEMES) {
      refuse(5, p);
      return p;
    }
    String written = text.substring(p, p + bytes);
    keep(written, p, written.matches("=|->|<-") ? 4 : isWord(written) ? 5 : kind,
        p - text.lastIndexOf('\n', p - 1));
    return p + bytes;
  }

  private static boolean isWord(String written) {
    return written.matches("let|in|where|do|of|case|if|then|else");
  }

  private static void keep(String written, int p, int kind, int column) {
    boolean opens = (many == 0 || before.matches("let|where|do|of")) && !written.equals("{");
    boolean begins = !opens && p - column != line;
    String space = many == 0 ? "" : " ";
    LEXEMES.append(space).append(p).append(':').append(kind).append(':').append(written.length());
    COLUMNS.append(space).append(column).append('/').append(opens ? column : "-").append('/');
    COLUMNS.append(begins ? column : "-");
    line = p - column;
    before = written;
    many++;
  }
}
