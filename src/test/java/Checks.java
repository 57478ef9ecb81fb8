import java.util.function.IntSupplier;

/** What the tests share: the dues, the refusals, and texts for THE TAPE. */
final class Checks {
  static final int LOW = -1000000000;
  static final int BEYOND = 1;
  static final int NONE = 2;
  static final int STATE = 3;
  static final int FULL = 4;
  static final int KIND = 5;
  static final int PARTED = 6;

  private static String topic = "";
  private static int asked = 0;
  private static int wrong = 0;

  private Checks() {}

  static void topic(String name) {
    topic = name;
  }

  static void due(String what, long got, long want) {
    asked++;
    if (got == want) return;
    wrong++;
    if (wrong <= 50) System.out.println(topic + ": " + what + " is " + got + ", due is " + want);
  }

  static void isTrue(String what, boolean got) {
    due(what, got ? 1 : 0, 1);
  }

  /** The call answers LOW - k, and it is counted; RefusalTest asks whether all else is as it was. */
  static void refused(FountainTalk x, int k, String what, IntSupplier call) {
    int before = x.told(k);
    due(what, call.getAsInt(), LOW - k);
    due(what + ", then told(" + k + ")", x.told(k), before + 1);
  }

  /** Feeds a text of signs 1 to 255, eight bytes a word. */
  static void feed(FountainTalk x, String text) {
    for (int i = 0; i < text.length(); i += 8) {
      int n = Math.min(8, text.length() - i);
      x.feed(word(text.substring(i, i + n)), n);
    }
  }

  static long word(String bytes) {
    long word = 0;
    for (int i = 0; i < bytes.length(); i++) word |= (long) (bytes.charAt(i) & 255) << 8 * i;
    return word;
  }

  static int text(FountainTalk x, int use, String text) {
    feed(x, text);
    return x.text(use);
  }

  /** TALK of the FOUNTAINS 0, 1, .. becomes that; SHEET 3 is missing then. */
  static void talk(FountainTalk x, int... talks) {
    x.sheet(3, 32, talks.length);
    for (int i = 0; i < talks.length; i++) x.put(3, i, talks[i]);
    due("talks", x.talks(3), talks.length);
    x.sheet(3, 0, 0);
  }

  /** Prints what came of it; ends with 1 if anything was wrong. */
  static void end() {
    System.out.println(wrong == 0 ? asked + " answers are as due" : wrong + " of " + asked + " answers are not as due");
    if (wrong != 0) System.exit(1);
  }
}
