import java.util.Random;

/** Long runs of calls by fixed draws: the class and the model answer alike, and nothing is thrown. */
public final class ModelTest {
  private static final int RUNS = 1500;
  private static final int CALLS = 512;
  private static final int[] ODD = {
    -1, -2, 10, 24, 25, 30, 31, 60, 69, 70, 99, 100, 9999, 99999, 100000, -128, 127, 128, 255, 32767, -32769,
    65535, LOW(), LOW() - 1, Integer.MIN_VALUE, Integer.MIN_VALUE + 1, Integer.MAX_VALUE, Integer.MAX_VALUE - 1
  };
  private static final String[] SIGNS = {"+", "-", "*", "/", "%", "<", "=", ">", "&", "|"};

  private static Random draws;
  private static FountainTalk x;
  private static Model y;
  private static int run;

  private static int LOW() {
    return Checks.LOW;
  }

  public static void main(String[] args) {
    for (run = 0; run < RUNS; run++) {
      draws = new Random(run);
      x = new FountainTalk();
      y = new Model();
      Checks.topic("run " + run);
      runOnce();
    }
    Checks.end();
  }

  private static int upTo(int most) {
    return draws.nextInt(most + 1);
  }

  /** Mostly low .. high, now and then something odd. */
  private static int in(int low, int high) {
    if (draws.nextInt(25) == 0) return draws.nextBoolean() ? ODD[draws.nextInt(ODD.length)] : draws.nextBoolean() ? low - 1 : high + 1;
    return low + upTo(high - low);
  }

  private static int fountain() {
    int many = x.count(0);
    y.count(0);
    return in(0, Math.max(0, many - 1));
  }

  private static int pipe() {
    int many = x.count(1);
    y.count(1);
    return in(0, Math.max(0, many - 1));
  }

  private static int any() {
    int form = draws.nextInt(6);
    if (form == 0) return draws.nextInt();
    if (form == 1) return ODD[draws.nextInt(ODD.length)];
    if (form == 2) return upTo(2);
    return upTo(40) - 10;
  }

  private static void runOnce() {
    int calls = 0;
    // in some runs the city stands from the begin, in others it grows as it comes
    if (draws.nextInt(4) != 0) {
      int many = 2 + upTo(6);
      boolean fromTheFoot = draws.nextInt(3) == 0;
      for (int i = 0; i < many; i++) {
        int height = Math.max(0, 9 - (fromTheFoot ? many - 1 - i : i) - upTo(2));
        fountainCall(10 * upTo(6) + upTo(9), height);
      }
      for (int i = 0; i < 9; i++) pipeCall(upTo(many - 1), upTo(many - 1), 1 + upTo(3));
      calls = many + 9;
      if (draws.nextBoolean()) {
        String text = "d+(h" + "<=>".charAt(upTo(2)) + upTo(5) + ")*f";
        Checks.due("text " + text, Checks.text(x, 1, text), 1);
        y.feed(Checks.word(text.substring(0, 8)), 8);
        y.feed(Checks.word(text.substring(8)), text.length() - 8);
        y.text(1);
      }
    }
    // counts of FOUNTAINS and PIPES ask once more a call, so half the calls are the run's own
    for (; calls < CALLS / 4; calls++) {
      try {
        callAny();
      } catch (RuntimeException thrown) {
        Checks.due("call " + calls + " threw " + thrown, 1, 0);
        return;
      }
    }
  }

  private static void fountainCall(int km, int h) {
    Checks.due("fountain(" + km + ", " + h + ")", x.fountain(km, h), y.fountain(km, h));
  }

  private static void pipeCall(int from, int to, int delay) {
    Checks.due("pipe(" + from + ", " + to + ", " + delay + ")", x.pipe(from, to, delay), y.pipe(from, to, delay));
  }

  private static void callAny() {
    int form = draws.nextInt(40);
    if (form < 12) callFountains(form);
    else if (form < 25) callHearing(form);
    else callRest(form);
  }

  private static void callFountains(int form) {
    int f = fountain();
    int p = pipe();
    int size = in(1, draws.nextBoolean() ? 20 : 99);
    int what = in(0, 3);
    int km = in(0, 69);
    switch (form) {
      case 0: fountainCall(km, in(0, 9)); break;
      case 1: Checks.due("fountainIs(" + f + ", " + what + ")", x.fountainIs(f, what), y.fountainIs(f, what)); break;
      case 2: Checks.due("become(" + f + ", " + km + ")", x.become(f, km), y.become(f, km)); break;
      case 3: int kind = in(0, 6); Checks.due("as(" + f + ", " + kind + ")", x.as(f, kind), y.as(f, kind)); break;
      case 4: Checks.due("says(" + f + ", " + size + ")", x.says(f, size), y.says(f, size)); break;
      case 5: Checks.due("goesOn(" + f + ", " + size + ")", x.goesOn(f, size), y.goesOn(f, size)); break;
      case 6: pipeCall(f, fountain(), in(1, 9)); break;
      case 7: int of = in(0, 4); Checks.due("pipeIs(" + p + ", " + of + ")", x.pipeIs(p, of), y.pipeIs(p, of)); break;
      case 8: case 9: int open = in(0, 1); Checks.due("turn(" + p + ", " + open + ")", x.turn(p, open), y.turn(p, open)); break;
      case 10: int v = in(0, 9); Checks.due("freeze(" + v + ")", x.freeze(v), y.freeze(v)); break;
      default: callText(); break;
    }
  }

  private static void callText() {
    int use = in(0, 1);
    switch (draws.nextInt(6)) {
      case 0:
        Checks.due("untell(" + use + ")", x.untell(use), y.untell(use));
        break;
      case 1:
        int n = in(1, 8);
        long word = draws.nextLong();
        Checks.due("feed(" + word + ", " + n + ")", x.feed(word, n), y.feed(word, n));
        break;
      default:
        String text = written(use == 0 ? "zhk" : "dfh", 3);
        // 1 and 0 are both held to 1: so that they can be told apart
        if (draws.nextBoolean()) text = (use == 0 ? "z+(" : "d+(") + text + ")";
        if (draws.nextInt(3) == 0) text = spoiled(text);
        for (int i = 0; i < text.length(); i += 8) {
          int bytes = Math.min(8, text.length() - i);
          long w = Checks.word(text.substring(i, i + bytes));
          Checks.due("feed(" + w + ", " + bytes + ")", x.feed(w, bytes), y.feed(w, bytes));
        }
        Checks.due("text(" + use + ") of " + text, x.text(use), y.text(use));
    }
    int a = any();
    int b = any();
    int c = any();
    Checks.due("law(" + use + ", " + a + ", " + b + ", " + c + ")", x.law(use, a, b, c), y.law(use, a, b, c));
  }

  private static String written(String names, int depth) {
    int form = depth == 0 ? draws.nextInt(2) : draws.nextInt(7);
    if (form == 0) return String.valueOf(draws.nextInt(draws.nextBoolean() ? 10 : 10000));
    if (form == 1) return names.substring(draws.nextInt(3)).substring(0, 1);
    if (form == 2) return "!" + written(names, depth - 1);
    if (form == 3) return "(" + written(names, depth - 1) + ")";
    return written(names, depth - 1) + SIGNS[draws.nextInt(SIGNS.length)] + written(names, depth - 1);
  }

  private static String spoiled(String text) {
    StringBuilder other = new StringBuilder(text);
    int at = draws.nextInt(text.length());
    String signs = "+-*/%<=>&|!()0123456789zhkdfx ~";
    switch (draws.nextInt(3)) {
      case 0: other.setCharAt(at, signs.charAt(draws.nextInt(signs.length()))); break;
      case 1: other.insert(at, signs.charAt(draws.nextInt(signs.length()))); break;
      default: other.setLength(at); break;
    }
    return other.toString();
  }

  private static void callHearing(int form) {
    int f = fountain();
    int at = fountain();
    int size = in(1, draws.nextInt(3) == 0 ? 99 : 20);
    int half = in(0, 1);
    String called = "(" + f + ", " + size + ", " + at + ", " + half + ")";
    switch (form) {
      case 12: Checks.due("hears" + called, x.hears(f, size), y.hears(f, size)); break;
      case 13: case 14: Checks.due("heard" + called, x.heard(f, size, at, half), y.heard(f, size, at, half)); break;
      case 15: Checks.due("let" + called, x.let(f, size), y.let(f, size)); break;
      case 16: int n = in(1, 30); Checks.due("days(" + n + ")", x.days(n), y.days(n)); break;
      case 17: int m = in(1, 20); Checks.due("loose(" + m + ")", x.loose(m), y.loose(m)); break;
      case 18: int v = any(); Checks.due("seed(" + v + ")", x.seed(v), y.seed(v)); break;
      case 19: case 20: Checks.due("hush" + called, x.hush(f, size, at, half), y.hush(f, size, at, half)); break;
      case 21: case 22:
        int by = in(0, draws.nextBoolean() ? 15 : 99);
        Checks.due("reach" + called + " by " + by, x.reach(f, size, at, by, half), y.reach(f, size, at, by, half));
        break;
      case 23: Checks.due("odds" + called, x.odds(at, size, half), y.odds(at, size, half)); break;
      default: callFits(f, size, half); break;
    }
  }

  /** Writes down how a SAYING is heard, and asks which SAYINGS fit that. */
  private static void callFits(int f, int size, int half) {
    int sheet = in(0, 3);
    if (draws.nextInt(3) != 0) {
      // a SHEET of more numbers than there are FOUNTAINS fits no SAYING: only now and then one of these
      int n = in(0, draws.nextInt(4) == 0 ? 10 : x.count(0));
      Checks.due("sheet(" + sheet + ", 32, " + n + ")", x.sheet(sheet, 32, n), y.sheet(sheet, 32, n));
      for (int i = 0; i < Math.min(n, 8); i++) {
        int v = Math.max(0, x.heard(f, size, i, 1));
        y.heard(f, size, i, 1);
        Checks.due("put(" + sheet + ", " + i + ", " + v + ")", x.put(sheet, i, v), y.put(sheet, i, v));
      }
    }
    Checks.due("fits(" + sheet + ", " + half + ")", x.fits(sheet, half), y.fits(sheet, half));
  }

  private static void callRest(int form) {
    int f = fountain();
    int sheet = in(0, 3);
    int i = in(0, 8);
    int v = any();
    switch (form) {
      case 25: case 26:
        int voice = in(0, 3);
        Checks.due("voice(" + f + ", " + voice + ", " + v + ")", x.voice(f, voice, v), y.voice(f, voice, v));
        Checks.due("BODIES of it", x.count(7), y.count(7));
        for (int b = 0; b < y.count(7); b++) Checks.due("body(" + b + ") of it", x.body(b), y.body(b));
        break;
      case 27: Checks.due("body(" + i + ")", x.body(i), y.body(i)); break;
      case 28:
        int bits = draws.nextInt(5) == 0 ? in(0, 32) : 8 << draws.nextInt(3);
        int n = in(0, 24);
        Checks.due("sheet(" + sheet + ", " + bits + ", " + n + ")", x.sheet(sheet, bits, n), y.sheet(sheet, bits, n));
        break;
      case 29: case 30: Checks.due("put(" + sheet + ", " + i + ", " + v + ")", x.put(sheet, i, v), y.put(sheet, i, v)); break;
      case 31:
        int other = in(0, 3);
        int j = in(0, 8);
        int many = in(0, 8);
        Checks.due("move(" + sheet + ", " + i + ", " + other + ", " + j + ", " + many + ")",
            x.move(sheet, i, other, j, many), y.move(sheet, i, other, j, many));
        break;
      case 32: Checks.due("talks(" + sheet + ")", x.talks(sheet), y.talks(sheet)); break;
      case 33: callJudge(sheet); break;
      case 34: Checks.due("image()", x.image(), y.image()); break;
      case 35: Checks.due("restore()", x.restore(), y.restore()); break;
      case 36: callTell(v); break;
      case 37: Checks.due("check()", x.check(), y.check()); break;
      case 38: int what = in(0, 8); Checks.due("count(" + what + ")", x.count(what), y.count(what)); break;
      default: int k = in(1, 6); Checks.due("told(" + k + ")", x.told(k), y.told(k)); break;
    }
  }

  private static void callJudge(int sheet) {
    int n = upTo(10);
    if (draws.nextBoolean()) {
      Checks.due("sheet(" + sheet + ", 8, " + n + ")", x.sheet(sheet, 8, n), y.sheet(sheet, 8, n));
      for (int p = 0; p < n; p++) {
        int slow = x.pipeIs(p, 4) + (draws.nextInt(12) == 0 ? 1 : 0);
        y.pipeIs(p, 4);
        Checks.due("put(" + sheet + ", " + p + ", " + slow + ")", x.put(sheet, p, slow), y.put(sheet, p, slow));
      }
    }
    Checks.due("judge(" + sheet + ")", x.judge(sheet), y.judge(sheet));
  }

  private static void callTell(int v) {
    int n = draws.nextInt(10);
    for (int f = 0; f < n; f++) {
      int talk = Math.max(0, x.fountainIs(f, 3));
      y.fountainIs(f, 3);
      Checks.due("tell(" + talk + ")", x.tell(talk), y.tell(talk));
    }
    if (draws.nextBoolean()) Checks.due("tell(" + v + ")", x.tell(v), y.tell(v));
  }
}
