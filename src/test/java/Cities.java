import java.util.ArrayList;
import java.util.List;

/** Cities to begin with, and all that calls can tell of one; both together keep within an object's 512 calls. */
final class Cities {
  private Cities() {}

  /** Nothing is as at first, and nothing is full; the IMAGE is of another state, SHEET 3 is missing. */
  static FountainTalk some() {
    FountainTalk x = new FountainTalk();
    x.fountain(13, 9);
    x.fountain(24, 5);
    x.fountain(31, 1);
    x.pipe(0, 1, 2);
    x.pipe(1, 2, 3);
    x.pipe(0, 2, 9);
    x.turn(1, 0);
    Checks.text(x, 0, "z+k");
    Checks.text(x, 1, "d+1");
    x.let(0, 9);
    x.seed(-5);
    Checks.feed(x, "h*k");
    x.tell(9);
    x.image();
    x.turn(1, 1);
    x.turn(2, 0);
    x.freeze(4);
    x.let(0, 90);
    x.days(1);
    x.seed(77);
    Checks.text(x, 0, "z+h-k");
    Checks.text(x, 1, "d+f");
    Checks.feed(x, "z%9+h");
    x.check();
    x.tell(x.fountainIs(0, 3));
    x.tell(x.fountainIs(1, 3));
    x.voice(0, 3, 7);
    x.sheet(0, 8, 3);
    for (int i = 0; i < 3; i++) x.put(0, i, 5 + i);
    x.sheet(1, 16, 5);
    x.put(1, 4, 300);
    x.sheet(2, 32, 0);
    return x;
  }

  /** As much of everything as there may be. */
  static FountainTalk full() {
    FountainTalk x = new FountainTalk();
    int[] kinds = {1, 13, 24, 35, 46, 57, 68, 9};
    int[] heights = {9, 8, 7, 6, 4, 3, 1, 0};
    for (int f = 0; f < 8; f++) x.fountain(kinds[f], heights[f]);
    for (int p = 0; p < 7; p++) x.pipe(p, p + 1, p + 1);
    x.pipe(0, 7, 9);
    x.pipe(0, 4, 9);
    x.image();
    x.turn(8, 0);
    x.freeze(9);
    x.let(0, 99);
    x.days(30);
    x.let(3, 98);
    x.seed(Integer.MIN_VALUE);
    Checks.text(x, 0, "z+h");
    Checks.text(x, 1, "d*2");
    Checks.feed(x, "1+2-".repeat(14) + "z+80");
    for (int i = 0; i < 24; i++) x.tell(i < 8 ? x.fountainIs(i, 3) : i);
    for (int sheet = 0; sheet < 4; sheet++) {
      x.sheet(sheet, 8 << sheet % 3, 24);
      x.put(sheet, 0, 1 + sheet);
      x.put(sheet, 12, 100);
      x.put(sheet, 23, 127);
    }
    x.voice(4, 2, 5);
    x.image();
    return x;
  }

  /** All that can be asked without changing anything and without an ERROR. */
  static List<Integer> seen(FountainTalk x) {
    List<Integer> all = new ArrayList<>();
    for (int what = 0; what <= 8; what++) all.add(x.count(what));
    int fountains = all.get(0);
    int pipes = all.get(1);
    int bodies = all.get(7);
    for (int f = 0; f < fountains; f++) {
      for (int what = 0; what <= 3; what++) all.add(x.fountainIs(f, what));
    }
    for (int p = 0; p < pipes; p++) {
      for (int what = 0; what <= 4; what++) all.add(x.pipeIs(p, what));
    }
    for (int v = 1; v <= 7; v += 3) {
      all.add(x.law(0, v, 7, 3));
      all.add(x.law(1, v, 5, 2));
    }
    for (int i = 0; i < bodies; i++) all.add(x.body(i));
    return all;
  }

  /** What told(1) to told(6) tell, then all that can be seen. */
  static List<Integer> toldAndSeen(FountainTalk x) {
    List<Integer> all = new ArrayList<>();
    for (int k = 1; k <= 6; k++) all.add(x.told(k));
    all.addAll(seen(x));
    return all;
  }

  /** All that can be learnt of a city at all, told(1) to told(6) first; the city is used up by it. */
  static List<Integer> whole(FountainTalk x) {
    List<Integer> all = toldAndSeen(x);
    all.addAll(waitingAndTape(x));
    for (int f = x.count(0); f < 8; f++) x.fountain(0, 0);
    for (int sheet = 0; sheet < 4; sheet++) all.addAll(numbers(x, sheet));
    all.add(x.restore());
    all.addAll(seen(x));
    all.addAll(waitingAndTape(x));
    all.add(x.image());
    return all;
  }

  private static List<Integer> waitingAndTape(FountainTalk x) {
    List<Integer> all = new ArrayList<>();
    all.add(x.check());
    all.add(x.text(0));
    all.add(x.law(0, 5, 3, 2));
    all.add(x.law(0, 40, 2, 6));
    return all;
  }

  /** How many numbers a SHEET has, which, and of what bits; there are eight FOUNTAINS to tell them by. */
  private static List<Integer> numbers(FountainTalk x, int sheet) {
    List<Integer> all = new ArrayList<>();
    int length = x.move(sheet, 0, sheet, 0, 0);
    if (length == 0) length = length(x, sheet);
    all.add(length);
    for (int i = 0; i < length; i += 8) {
      if (i > 0) x.move(sheet, i, sheet, 0, Math.min(8, length - i));
      all.add(x.talks(sheet));
      for (int f = 0; f < Math.min(8, length - i); f++) all.add(x.fountainIs(f, 3));
    }
    if (length > 0) {
      x.put(sheet, 0, 40000);
      all.add(x.talks(sheet));
      all.add(x.fountainIs(0, 3));
    }
    return all;
  }

  private static int length(FountainTalk x, int sheet) {
    int least = 0;
    int most = 24;
    while (least < most) {
      int n = (least + most + 1) / 2;
      if (x.move(sheet, 0, sheet, 0, n) == n) least = n;
      else most = n - 1;
    }
    return least;
  }
}
