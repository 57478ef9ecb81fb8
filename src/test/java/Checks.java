import java.util.ArrayList;
import java.util.List;
import java.util.function.IntSupplier;

/** What the tests share: the dues, the refusals, and texts for THE TAPE. */
final class Checks {
  static final int LOW = -1000000000;
  static final int BEYOND = 1;
  static final int NONE = 2;
  static final int STATE = 3;
  static final int FULL = 4;
  static final int KIND = 5;
  static final int PARTED = 6;

  private static String topic = "";
  private static int asked = 0;
  private static int wrong = 0;

  private Checks() {}

  static void topic(String name) {
    topic = name;
  }

  static void due(String what, long got, long want) {
    asked++;
    if (got == want) return;
    wrong++;
    if (wrong <= 50) System.out.println(topic + ": " + what + " is " + got + ", due is " + want);
  }

  static void isTrue(String what, boolean got) {
    due(what, got ? 1 : 0, 1);
  }

  /** The call answers LOW - k, and nothing but told(k) is another then. */
  static void refused(FountainTalk x, int k, String what, IntSupplier call) {
    List<Integer> before = seen(x);
    int[] toldBefore = told(x);
    due(what, call.getAsInt(), LOW - k);
    int[] toldAfter = told(x);
    toldBefore[k]++;
    for (int i = 1; i <= 6; i++) due(what + ", then told(" + i + ")", toldAfter[i], toldBefore[i]);
    isTrue(what + " changes nothing", before.equals(seen(x)));
  }

  static int[] told(FountainTalk x) {
    int[] told = new int[7];
    for (int k = 1; k <= 6; k++) told[k] = x.told(k);
    return told;
  }

  /** All that can be asked without changing anything and without an ERROR. */
  static List<Integer> seen(FountainTalk x) {
    List<Integer> all = new ArrayList<>();
    for (int what = 0; what <= 8; what++) all.add(x.count(what));
    for (int f = 0; f < x.count(0); f++) {
      for (int what = 0; what <= 3; what++) all.add(x.fountainIs(f, what));
    }
    for (int p = 0; p < x.count(1); p++) {
      for (int what = 0; what <= 4; what++) all.add(x.pipeIs(p, what));
    }
    for (int v = -3; v <= 30; v += 3) {
      all.add(x.law(0, v, 7, 3));
      all.add(x.law(1, v, 5, 2));
    }
    for (int i = 0; i < x.count(7); i++) all.add(x.body(i));
    return all;
  }

  /** Feeds a text of signs 1 to 255, eight bytes a word. */
  static void feed(FountainTalk x, String text) {
    for (int i = 0; i < text.length(); i += 8) {
      int n = Math.min(8, text.length() - i);
      x.feed(word(text.substring(i, i + n)), n);
    }
  }

  static long word(String bytes) {
    long word = 0;
    for (int i = 0; i < bytes.length(); i++) word |= (long) (bytes.charAt(i) & 255) << 8 * i;
    return word;
  }

  static int text(FountainTalk x, int use, String text) {
    feed(x, text);
    return x.text(use);
  }

  /** Prints what came of it; ends with 1 if anything was wrong. */
  static void end() {
    System.out.println(wrong == 0 ? asked + " answers are as due" : wrong + " of " + asked + " answers are not as due");
    if (wrong != 0) System.exit(1);
  }
}
