/** 'Terms' 2: THE TAPE, TEXTS and their FAULTS, ints that wrap, what is held. */
public final class TextEdgeTest extends Edges {
  public static void main(String[] args) {
    bytesOfAWord();
    tapeUpToSixty();
    numbersOfOneToFourDigits();
    longRows();
    whatBindsWhat();
    openOnes();
    everyByteAlone();
    everyByteBehind();
    namesOfEachUse();
    intsThatWrap();
    cutAndRest();
    trueAndFalse();
    heldLaws();
    aFaultLeavesTheOneAhead();
    Checks.end();
  }

  private static void bytesOfAWord() {
    Checks.topic("12 feed: the n lowest bytes (1 .. 8), the lowest first");
    String eight = "12+34*56";
    for (int n = 1; n <= 8; n++) {
      FountainTalk x = new FountainTalk();
      due("feed", x.feed(Checks.word(eight), n), n);
      due("bytes of THE TAPE", x.count(5), n);
      String told = eight.substring(0, n);
      boolean whole = Character.isDigit(told.charAt(n - 1));
      due("text of " + told, x.text(0), whole ? 1 : -10 - n);
    }
    FountainTalk x = new FountainTalk();
    due("eight above 127", x.feed(-1L, 8), 8);
    due("a byte of 255", x.text(0), -10);
    x.feed(0x80L << 56 | 0x7a7a7a7a7a7a7aL, 8);
    due("a byte of 128 behind z", x.text(0), -11);
    x.feed(0x807aL, 2);
    due("a byte of 128", x.text(0), -11);
    x.feed(0x1007aL, 2);
    due("a byte of 0", x.text(0), -11);
    x.feed(Long.MIN_VALUE | 'z', 1);
    due("bytes above do not matter", x.text(0), 1);
  }

  private static void tapeUpToSixty() {
    Checks.topic("THE TAPE (bytes, at most 60)");
    for (int n = 1; n <= 8; n++) {
      FountainTalk x = new FountainTalk();
      int bytes = 0;
      while (bytes + n <= 60) {
        bytes += n;
        due("feed", x.feed(0x2b312b312b312b31L, n), bytes);
      }
      if (bytes > 60 - n && bytes < 60) due("one too many", x.feed(0, n), -1000000004);
      due("bytes", x.count(5), bytes);
    }
    FountainTalk x = new FountainTalk();
    due("no bytes", x.text(0), -10);
    due("no bytes", x.text(1), -10);
    due("sixty", Checks.text(x, 0, "z+".repeat(29) + "z2"), -10 - 59);
    due("sixty that end too early", Checks.text(x, 0, "z+".repeat(30)), -10 - 60);
    due("sixty", Checks.text(x, 0, "z+".repeat(29) + "!z"), 1);
    due("law", x.law(0, 3, 0, 0), 29 * 3);
    due("fifty-nine", Checks.text(x, 0, "z+".repeat(29) + "z"), 1);
    due("law", x.law(0, 3, 0, 0), 30 * 3);
    due("told of it", x.told(1) + x.told(4), 0);
  }

  private static void numbersOfOneToFourDigits() {
    Checks.topic("a NUMBER of 1 to 4 digits");
    FountainTalk x = new FountainTalk();
    String[] right = {"0", "9", "00", "99", "000", "0000", "0009", "9999", "1000"};
    for (String text : right) {
      due("text of " + text, Checks.text(x, 0, text), 1);
      due("law of " + text, x.law(0, 50, 0, 0), Math.max(1, Math.min(99, Integer.parseInt(text))));
      due("text of z=" + text, Checks.text(x, 0, "(z=" + text + ")*7"), 1);
      due("law of it", x.law(0, Integer.parseInt(text), 0, 0), 7);
      due("law of another", x.law(0, Integer.parseInt(text) + 1, 0, 0), 1);
    }
    String[] wrong = {"00000", "12345", "99999", "00001", "123456"};
    for (String text : wrong) {
      due("text of " + text, Checks.text(x, 0, text), -14);
      due("text of z*" + text, Checks.text(x, 0, "z*" + text), -16);
      due("text of (" + text, Checks.text(x, 0, "(" + text), -15);
      due("text of !" + text, Checks.text(x, 0, "!" + text), -15);
    }
  }

  private static void longRows() {
    Checks.topic("rows of as many as THE TAPE has");
    FountainTalk x = new FountainTalk();
    for (String sign : new String[] {"|", "&", "+", "-", "*", "/", "%"}) {
      due("a row by " + sign, Checks.text(x, 0, ("z" + sign).repeat(29) + "z"), 1);
      due("one that ends too early", Checks.text(x, 0, ("z" + sign).repeat(30)), -70);
      due("two signs", Checks.text(x, 0, "z" + sign + sign + "z"), -12);
    }
    for (String sign : new String[] {"<", "=", ">"}) {
      due("one " + sign, Checks.text(x, 0, "z" + sign + "z"), 1);
      for (String other : new String[] {"<", "=", ">"}) {
        due("another one behind " + sign, Checks.text(x, 0, "z" + sign + "z" + other + "z"), -13);
        due("in ( )", Checks.text(x, 0, "(z" + sign + "z)" + other + "z"), 1);
        due("behind &", Checks.text(x, 0, "z" + sign + "z&z" + other + "z"), 1);
        due("behind |", Checks.text(x, 0, "z" + sign + "z|z" + other + "z"), 1);
        due("behind +", Checks.text(x, 0, "z" + sign + "z+z" + other + "z"), -15);
        due("in ! ( )", Checks.text(x, 0, "z" + sign + "!(z" + other + "z)"), 1);
      }
    }
  }

  private static final String[] LEVELS = {"|", "&", "<=>", "+-", "*/%"};

  private static int level(char sign) {
    for (int level = 0; level < LEVELS.length; level++) if (LEVELS[level].indexOf(sign) >= 0) return level;
    throw new IllegalArgumentException("no sign: " + sign);
  }

  /** Two signs in a row are as with ( ) about the one that binds more, or about the first one. */
  private static void whatBindsWhat() {
    Checks.topic("T: A { | A }, A: B { & B }, B: S < S .., S: P { + P, - P }, P: Q { * Q, / Q, % Q }");
    String signs = "|&<=>+-*/%";
    int[][] numbers = {{7, 3, 2}, {2, 3, 7}, {1, 0, 0}, {0, 0, 1}, {-7, 2, 3}, {0, 5, 0}, {1, 1, 1}, {9, 4, -2}, {5, 0, 3}, {2, 1, 0}};
    for (int i = 0; i < signs.length(); i++) {
      for (int j = 0; j < signs.length(); j++) {
        char a = signs.charAt(i);
        char b = signs.charAt(j);
        if (level(a) == 2 && level(b) == 2) continue;
        boolean first = level(a) >= level(b);
        FountainTalk x = new FountainTalk();
        FountainTalk y = new FountainTalk();
        due("text", Checks.text(x, 0, "(z" + a + "h" + b + "k)+20"), 1);
        due("text", Checks.text(y, 0, first ? "((z" + a + "h)" + b + "k)+20" : "(z" + a + "(h" + b + "k))+20"), 1);
        for (int[] n : numbers) {
          String what = "z" + a + "h" + b + "k of " + n[0] + ", " + n[1] + ", " + n[2];
          due(what, x.law(0, n[0], n[1], n[2]), y.law(0, n[0], n[1], n[2]));
          due(what + ", worked out", x.law(0, n[0], n[1], n[2]), workedOut(a, b, n));
        }
      }
    }
  }

  private static int workedOut(char a, char b, int[] n) {
    int v = level(a) >= level(b)
        ? Model.joined(b, Model.joined(a, n[0], n[1]), n[2])
        : Model.joined(a, n[0], Model.joined(b, n[1], n[2]));
    return Math.max(1, Math.min(99, v + 20));
  }

  private static void openOnes() {
    Checks.topic("at most 5 of ! and ( are open at once");
    FountainTalk x = new FountainTalk();
    // of each row of five, the next one is at the place 5; and closed it is a TEXT
    for (int form = 0; form < 32; form++) {
      StringBuilder row = new StringBuilder();
      StringBuilder close = new StringBuilder();
      for (int i = 0; i < 5; i++) {
        boolean no = (form >> i & 1) != 0;
        row.append(no ? '!' : '(');
        if (!no) close.append(')');
      }
      String closed = row + "z" + close;
      due("text of " + closed, Checks.text(x, 0, closed), 1);
      due("text of " + row + "!z", Checks.text(x, 0, row + "!z"), -15);
      due("text of " + row + "(z)", Checks.text(x, 0, row + "(z)"), -15);
      due("once more behind it", Checks.text(x, 0, closed + "*" + closed), 1);
      due("ends too early: " + row, Checks.text(x, 0, row.toString()), -15);
      due("ends too early: " + row + "z", Checks.text(x, 0, row + "z"), close.length() == 0 ? 1 : -16);
      if (form == 31) due("a ) too many", Checks.text(x, 0, closed + ")"), -10 - closed.length());
    }
    due("a ! stays open over its ( )", Checks.text(x, 0, "!(!(!(z"), -15);
    due("a ! is closed by its ( )", Checks.text(x, 0, "!(!(z)+!(z))"), 1);
    due("five, one closed, one more", Checks.text(x, 0, "((((!z+(z)))))"), 1);
    due("five, one closed, two more", Checks.text(x, 0, "((((!z+(!z)))))"), -18);
  }

  /** Each of the 256 bytes alone: only a digit and a NAME are a TEXT, and ! and ( could go on. */
  private static void everyByteAlone() {
    Checks.topic("each byte, alone");
    for (int use = 0; use <= 1; use++) {
      String names = use == 0 ? "zhk" : "dfh";
      for (int from = 0; from < 256; from += 128) {
        FountainTalk x = new FountainTalk();
        for (int b = from; b < from + 128; b++) {
          boolean isPart = b >= '0' && b <= '9' || names.indexOf(b) >= 0;
          boolean goesOn = b == '!' || b == '(';
          x.feed(b, 1);
          due("byte " + b + " of USE " + use, x.text(use), isPart ? 1 : goesOn ? -11 : -10);
        }
      }
    }
  }

  private static void everyByteBehind() {
    Checks.topic("each byte, behind a NAME and behind a NUMBER");
    for (int use = 0; use <= 1; use++) {
      int name = use == 0 ? 'k' : 'f';
      for (int from = 0; from < 256; from += 64) {
        FountainTalk x = new FountainTalk();
        for (int b = from; b < from + 64; b++) {
          boolean isSign = b > 0 && "|&<=>+-*/%".indexOf(b) >= 0;
          boolean isDigit = b >= '0' && b <= '9';
          x.feed(name | b << 8, 2);
          due("byte " + b + " behind a NAME", x.text(use), isSign ? -12 : -11);
          x.feed('7' | b << 8, 2);
          due("byte " + b + " behind a NUMBER", x.text(use), isSign ? -12 : isDigit ? 1 : -11);
          x.feed('(' | name << 8 | (long) b << 16 | (long) ')' << 24, 4);
          due("byte " + b + " in ( )", x.text(use), isSign ? -13 : b == ')' ? -13 : -12);
        }
      }
    }
  }

  private static void namesOfEachUse() {
    Checks.topic("NAMES of each USE");
    FountainTalk x = new FountainTalk();
    String[] names = {"zhk", "dfh"};
    for (int use = 0; use <= 1; use++) {
      for (int i = 0; i < 3; i++) {
        due("text", Checks.text(x, use, names[use].substring(i, i + 1)), 1);
        due("law", x.law(use, 3, 5, 7), 3 + 2 * i);
      }
      for (char other : new char[] {'z', 'k', 'd', 'f', 'Z', 'H', 'K', 'D', 'F'}) {
        if (names[use].indexOf(other) < 0) due("no NAME: " + other, Checks.text(x, use, "1+" + other), -12);
      }
    }
  }

  /** A TEXT of z, h, k, the three numbers, and what it gives (within 1 .. 99). */
  private static final Object[][] WRAPS = {
    {"z+h", MAX, MIN + 43, 0, 42}, {"z+h", MAX, MAX, 0, 1}, {"z+h+k", MAX, MAX, 9, 7}, {"z-h", MIN, MAX - 10, 0, 11},
    {"z-h", 0, MIN, 0, 1}, {"z-h-1", 0, MIN, 0, 99}, {"0-z", MIN, 0, 0, 1}, {"0-z=z", MIN, 0, 0, 1},
    {"(0-z=z)*5", MIN, 0, 0, 5}, {"z*h", 65537, 65537, 0, 99}, {"z*h", 65536, 65536, 0, 1}, {"z*h+5", 65536, 65536, 0, 5},
    {"z*h+5", MIN, 2, 0, 5}, {"z*h", MAX, MAX, 0, 1}, {"z*h+5", MAX, MAX, 0, 6}, {"z*h+5", MAX, -1, 0, 1},
    {"z*h+k", MAX, -1, MIN + 20, 21}, {"z*h-k", MAX, -1, MAX - 19, 21}, {"z*h-k+50", MAX, -1, MAX, 52},
    {"z/h=z", MIN, -1, 0, 1}, {"(z/h=z)*9", MIN, -1, 0, 9}, {"z/h", MIN, -1, 0, 1}, {"z%h+5", MIN, -1, 0, 5},
    {"(z*h=1)*9", MAX, MAX, 0, 9}
  };

  private static void intsThatWrap() {
    Checks.topic("ints that wrap");
    for (Object[] row : WRAPS) {
      FountainTalk x = new FountainTalk();
      due("text of " + row[0], Checks.text(x, 0, (String) row[0]), 1);
      due(row[0] + " of " + row[1] + ", " + row[2] + ", " + row[3],
          x.law(0, (Integer) row[1], (Integer) row[2], (Integer) row[3]), (Integer) row[4]);
    }
    FountainTalk x = new FountainTalk();
    Checks.text(x, 0, "(9999*9999*9999*9999=z)*9");
    due("9999 four times", x.law(0, 9999 * 9999 * 9999 * 9999, 0, 0), 9);
  }

  /** a, b, a / b and a % b. */
  private static final int[][] QUOTIENTS = {
    {7, 2, 3, 1}, {-7, 2, -3, -1}, {7, -2, -3, 1}, {-7, -2, 3, -1}, {6, 3, 2, 0}, {-6, 3, -2, 0}, {1, 2, 0, 1}, {-1, 2, 0, -1},
    {0, 5, 0, 0}, {5, 0, 0, 0}, {-5, 0, 0, 0}, {0, 0, 0, 0}, {MIN, 0, 0, 0}, {MAX, 0, 0, 0}, {MIN, -1, MIN, 0}, {MAX, -1, -MAX, 0},
    {MIN, 1, MIN, 0}, {MIN, MIN, 1, 0}, {MAX, MIN, 0, MAX}, {MIN, MAX, -1, -1}, {MIN, 2, -1073741824, 0}
  };

  private static void cutAndRest() {
    Checks.topic("/ cut, % the rest that it leaves, both by 0 are 0");
    for (int[] row : QUOTIENTS) {
      FountainTalk x = new FountainTalk();
      Checks.text(x, 0, "(z/h=k)*9");
      due(row[0] + " / " + row[1], x.law(0, row[0], row[1], row[2]), 9);
      Checks.text(x, 0, "(z%h=k)*9");
      due(row[0] + " % " + row[1], x.law(0, row[0], row[1], row[3]), 9);
    }
  }

  private static void trueAndFalse() {
    Checks.topic("| & < = > ! are 1 or 0, what is not 0 being true");
    int[] values = {MIN, -2, -1, 0, 1, 2, MAX};
    String[] texts = {"z|h", "z&h", "z<h", "z=h", "z>h", "!z"};
    for (String text : texts) {
      for (int a : values) {
        FountainTalk x = new FountainTalk();
        Checks.text(x, 0, "(" + text + ")+5");
        for (int b : values) {
          boolean is;
          switch (text) {
            case "z|h": is = a != 0 || b != 0; break;
            case "z&h": is = a != 0 && b != 0; break;
            case "z<h": is = a < b; break;
            case "z=h": is = a == b; break;
            case "z>h": is = a > b; break;
            default: is = a == 0;
          }
          due(text + " of " + a + ", " + b, x.law(0, a, b, 0), is ? 6 : 5);
        }
      }
    }
  }

  private static void heldLaws() {
    Checks.topic("held within 1 .. 99, 1 .. 20; without a TEXT z, d (held likewise)");
    for (int use = 0; use <= 1; use++) {
      int most = use == 0 ? 99 : 20;
      FountainTalk without = new FountainTalk();
      FountainTalk with = new FountainTalk();
      Checks.text(with, use, use == 0 ? "h" : "f");
      for (int v : new int[] {MIN, -1, 0, 1, 2, most - 1, most, most + 1, 1000, MAX}) {
        int held = v < 1 ? 1 : v > most ? most : v;
        due("without a TEXT, " + v, without.law(use, v, MAX, MIN), held);
        due("by the TEXT, " + v, with.law(use, MIN, v, MAX), held);
      }
      noErrors(with);
      due("untell", with.untell(use), 1);
      due("without it", with.law(use, 7, 9, 9), 7);
      due("untell, there is none", with.untell(use), 0);
    }
  }

  private static void aFaultLeavesTheOneAhead() {
    Checks.topic("13 text: -10 less the FAULT, the one ahead stays");
    for (int use = 0; use <= 1; use++) {
      FountainTalk x = new FountainTalk();
      due("a FAULT with none ahead", Checks.text(x, use, "1+"), -12);
      due("there is none", x.untell(use), 0);
      due("text", Checks.text(x, use, "h+2"), 1);
      String longer = "1+2*3<4&(5|6)!";
      due("a FAULT behind a longer one", Checks.text(x, use, longer), -10 - 13);
      due("THE TAPE is empty", x.count(5), 0);
      due("the one ahead", x.law(use, 9, use == 0 ? 3 : 9, use == 0 ? 9 : 3), 5);
      due("no bytes at all", x.text(use), -10);
      due("the one ahead", x.law(use, 9, use == 0 ? 4 : 9, use == 0 ? 9 : 4), 6);
      due("there is one", x.untell(use), 1);
      due("a FAULT when there is none any more", Checks.text(x, use, "h)"), -11);
      due("there is none", x.untell(use), 0);
      noErrors(x);
    }
  }
}
