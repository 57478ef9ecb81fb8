import java.util.List;
import java.util.function.Function;
import java.util.function.Supplier;
import java.util.function.ToIntFunction;

/**
 * Each call that is refused: it answers its ERROR and no other, and behind it the city is what one is
 * that was never asked. Each city is made twice for it, and read to the last number.
 */
public final class RefusalTest {
  private static final int BEYOND = Checks.BEYOND;
  private static final int NONE = Checks.NONE;
  private static final int STATE = Checks.STATE;
  private static final int FULL = Checks.FULL;
  private static final int KIND = Checks.KIND;
  private static final int PARTED = Checks.PARTED;
  private static final int MIN = Integer.MIN_VALUE;
  private static final int MAX = Integer.MAX_VALUE;

  private static final Supplier<FountainTalk> EMPTY = FountainTalk::new;
  private static final Supplier<FountainTalk> SOME = Cities::some;
  private static final Supplier<FountainTalk> CROWDED = Cities::full;

  public static void main(String[] args) {
    citiesAreWhatTheirNamesSay();
    outOfBounds();
    fountains();
    pipes();
    tape();
    hearing();
    lateDays();
    keys();
    fits();
    voices();
    sheets();
    moves();
    images();
    Checks.end();
  }

  // ---- how a refusal is asked

  private static void refused(String what, int k, Supplier<FountainTalk> city, ToIntFunction<FountainTalk> call) {
    refused(what, k, city, call, Cities::whole);
  }

  private static void refused(String what, int k, Supplier<FountainTalk> city, ToIntFunction<FountainTalk> call,
      Function<FountainTalk, List<Integer>> read) {
    FountainTalk asked = city.get();
    Checks.due(what, call.applyAsInt(asked), Checks.LOW - k);
    List<Integer> is = read.apply(asked);
    List<Integer> due = read.apply(city.get());
    due.set(k - 1, due.get(k - 1) + 1);
    Checks.due(what + ": as many numbers tell of the city", is.size(), due.size());
    for (int i = 0; i < Math.min(is.size(), due.size()); i++) {
      if (is.get(i).equals(due.get(i))) continue;
      Checks.due(what + ": number " + i + " that tells of the city behind it", is.get(i), due.get(i));
      return;
    }
  }

  private static Supplier<FountainTalk> after(Supplier<FountainTalk> city, ToIntFunction<FountainTalk> call) {
    return () -> {
      FountainTalk x = city.get();
      call.applyAsInt(x);
      return x;
    };
  }

  /** A reading of a city that tells nothing would find each refusal right. */
  private static void citiesAreWhatTheirNamesSay() {
    Checks.topic("what a city is read by");
    int[] emptyCounts = {0, 0, 0, 0, 0, 0, 0, 0, 1};
    int[] fullCounts = {8, 9, 9, 30, 255, 60, 24, 6, MIN};
    FountainTalk full = Cities.full();
    for (int what = 0; what <= 8; what++) {
      Checks.due("count(" + what + ") of an empty one", new FountainTalk().count(what), emptyCounts[what]);
      Checks.due("count(" + what + ") of a full one", full.count(what), fullCounts[what]);
    }
    Checks.due("its THE TAPE is right", full.text(0), 1);
    Checks.due("the first eight that wait are right", full.check(), 9);
    Checks.due("its IMAGES", full.image(), 3);
    Checks.due("no ERROR in the making of some()", sumOfTold(Cities.some()), 0);
    Checks.due("no ERROR in the making of full()", sumOfTold(full), 0);
    differs("a turn()", x -> x.turn(0, 0));
    differs("a put()", x -> x.put(0, 2, 99));
    differs("a put() at an end", x -> x.put(1, 4, 299));
    differs("bits of a SHEET", x -> x.sheet(2, 16, 0) + x.sheet(0, 32, 3) + x.put(0, 0, 5) + x.put(0, 1, 6) + x.put(0, 2, 7));
    differs("a number that waits", x -> x.tell(-1));
    differs("a byte of THE TAPE", x -> x.feed('1', 1));
    differs("a TEXT", x -> x.untell(1));
    differs("an IMAGE", x -> x.image());
    differs("a TRACE", x -> x.voice(0, 0, 0));
    differs("TALK", x -> x.let(2, 1));
    differs("z", x -> x.seed(78));
    differs("DAY", x -> x.days(1));
  }

  private static int sumOfTold(FountainTalk x) {
    int sum = 0;
    for (int k = 1; k <= 6; k++) sum += x.told(k);
    return sum;
  }

  private static void differs(String what, ToIntFunction<FountainTalk> call) {
    boolean same = Cities.whole(Cities.some()).equals(Cities.whole(after(SOME, call).get()));
    Checks.isTrue(what + " can be read", !same);
  }

  // ---- bounds of arguments: the last that is taken and the first that is refused, on both sides

  /** A call with the least and the most of each argument. */
  private static final class Act {
    final String name;
    final int[][] bounds;

    Act(String name, int[]... bounds) {
      this.name = name;
      this.bounds = bounds;
    }
  }

  private static final int[] FOUNTAIN = {0, 7};
  private static final int[] PIPE = {0, 8};
  private static final int[] SIZE = {1, 99};
  private static final int[] BIT = {0, 1};
  private static final int[] SHEET = {0, 3};
  private static final int[] KM = {0, 69};
  private static final int[] DIGIT = {0, 9};
  private static final int[] ANY = {MIN, MAX};

  private static final Act[] ACTS = {
    new Act("fountain", KM, DIGIT), new Act("fountainIs", FOUNTAIN, new int[] {0, 3}),
    new Act("become", FOUNTAIN, KM), new Act("as", FOUNTAIN, new int[] {0, 6}),
    new Act("says", FOUNTAIN, SIZE), new Act("goesOn", FOUNTAIN, SIZE),
    new Act("pipe", FOUNTAIN, FOUNTAIN, new int[] {1, 9}), new Act("pipeIs", PIPE, new int[] {0, 4}),
    new Act("turn", PIPE, BIT), new Act("freeze", DIGIT), new Act("feed", ANY, new int[] {1, 8}),
    new Act("text", BIT), new Act("untell", BIT), new Act("law", BIT, ANY, ANY, ANY),
    new Act("hears", FOUNTAIN, SIZE), new Act("heard", FOUNTAIN, SIZE, FOUNTAIN, BIT),
    new Act("let", FOUNTAIN, SIZE), new Act("days", new int[] {1, 30}), new Act("loose", new int[] {1, 20}),
    new Act("seed", ANY), new Act("hush", FOUNTAIN, SIZE, FOUNTAIN, BIT),
    new Act("reach", FOUNTAIN, SIZE, FOUNTAIN, new int[] {0, 99}, BIT), new Act("odds", FOUNTAIN, SIZE, BIT),
    new Act("fits", SHEET, BIT), new Act("voice", FOUNTAIN, new int[] {0, 3}, ANY), new Act("body", ANY),
    new Act("talks", SHEET), new Act("judge", SHEET), new Act("tell", ANY), new Act("count", new int[] {0, 8}),
    new Act("told", new int[] {1, 6})
  };

  private static int call(FountainTalk x, String name, int[] a) {
    switch (name) {
      case "fountain": return x.fountain(a[0], a[1]);
      case "fountainIs": return x.fountainIs(a[0], a[1]);
      case "become": return x.become(a[0], a[1]);
      case "as": return x.as(a[0], a[1]);
      case "says": return x.says(a[0], a[1]);
      case "goesOn": return x.goesOn(a[0], a[1]);
      case "pipe": return x.pipe(a[0], a[1], a[2]);
      case "pipeIs": return x.pipeIs(a[0], a[1]);
      case "turn": return x.turn(a[0], a[1]);
      case "freeze": return x.freeze(a[0]);
      case "feed": return x.feed(a[0], a[1]);
      case "text": return x.text(a[0]);
      case "untell": return x.untell(a[0]);
      case "law": return x.law(a[0], a[1], a[2], a[3]);
      case "hears": return x.hears(a[0], a[1]);
      case "heard": return x.heard(a[0], a[1], a[2], a[3]);
      case "let": return x.let(a[0], a[1]);
      case "days": return x.days(a[0]);
      case "loose": return x.loose(a[0]);
      case "seed": return x.seed(a[0]);
      case "hush": return x.hush(a[0], a[1], a[2], a[3]);
      case "reach": return x.reach(a[0], a[1], a[2], a[3], a[4]);
      case "odds": return x.odds(a[0], a[1], a[2]);
      case "fits": return x.fits(a[0], a[1]);
      case "voice": return x.voice(a[0], a[1], a[2]);
      case "body": return x.body(a[0]);
      case "talks": return x.talks(a[0]);
      case "judge": return x.judge(a[0]);
      case "tell": return x.tell(a[0]);
      case "count": return x.count(a[0]);
      default: return x.told(a[0]);
    }
  }

  private static void outOfBounds() {
    Checks.topic("bounds of arguments");
    for (Act act : ACTS) {
      outOfBounds(act, "empty", EMPTY, 0, 0);
      outOfBounds(act, "some", SOME, 3, 3);
      outOfBounds(act, "full", CROWDED, 8, 9);
    }
  }

  private static void outOfBounds(Act act, String name, Supplier<FountainTalk> city, int fountains, int pipes) {
    int n = act.bounds.length;
    int[][] bounds = new int[n][];
    boolean hasNone = false;
    for (int i = 0; i < n; i++) {
      bounds[i] = act.bounds[i].clone();
      if (act.bounds[i] == FOUNTAIN) bounds[i][1] = fountains - 1;
      if (act.bounds[i] == PIPE) bounds[i][1] = pipes - 1;
      if (bounds[i][1] < bounds[i][0]) hasNone = true;
    }
    // at the least, all FOUNTAINS are one: what is refused for that is asked after the bounds
    for (boolean most : new boolean[] {false, true}) {
      int[] in = new int[n];
      for (int i = 0; i < n; i++) in[i] = most ? bounds[i][1] : bounds[i][0];
      if (hasNone) beyond(act, name, city, in);
      else taken(act, name, city, in);
      for (int i = 0; i < n; i++) {
        if (act.bounds[i] == ANY) continue;
        for (int odd : new int[] {bounds[i][0] - 1, bounds[i][1] + 1, MIN, MAX}) beyond(act, name, city, with(in, i, odd));
      }
    }
  }

  private static int[] with(int[] arguments, int i, int v) {
    int[] other = arguments.clone();
    other[i] = v;
    return other;
  }

  private static String shown(Act act, String city, int[] a) {
    return act.name + java.util.Arrays.toString(a) + " in " + city;
  }

  private static void beyond(Act act, String name, Supplier<FountainTalk> city, int[] a) {
    refused(shown(act, name, a), BEYOND, city, x -> call(x, act.name, a));
  }

  /** Whatever else it answers, it is not BEYOND, and the ERROR that it answers is the one that is counted. */
  private static void taken(Act act, String name, Supplier<FountainTalk> city, int[] a) {
    FountainTalk x = city.get();
    int answer = call(x, act.name, a);
    Checks.due(shown(act, name, a) + " is not BEYOND", x.told(BEYOND), 0);
    boolean isError = answer < Checks.LOW && answer >= Checks.LOW - PARTED;
    Checks.due(shown(act, name, a) + ": ERRORS", sumOfTold(x), isError ? 1 : 0);
  }

  // ---- what else is refused, and what is asked ahead of it

  private static void fountains() {
    Checks.topic("2 fountain: FULL");
    refused("a ninth, the least", FULL, CROWDED, x -> x.fountain(0, 0));
    refused("a ninth, the most", FULL, CROWDED, x -> x.fountain(69, 9));
    Checks.topic("5 as: KIND");
    int[] above = {-1, 0, 0, 0, 1, 2, 0, -1};
    for (int f = 0; f < 8; f++) {
      for (int kind = 1; kind < 7; kind++) {
        int of = f;
        int a = kind;
        if (kind == f % 7 || kind == above[f]) continue;
        refused("as(" + f + ", " + kind + ")", KIND, CROWDED, x -> x.as(of, a));
      }
    }
  }

  private static void pipes() {
    Checks.topic("8 pipe: STATE, FULL");
    for (int from = 0; from < 3; from++) {
      for (int to = 0; to <= from; to++) {
        int f = from;
        int t = to;
        refused("pipe(" + f + ", " + t + ")", STATE, SOME, x -> x.pipe(f, t, 1));
        refused("pipe(" + f + ", " + t + ") in a full one", STATE, CROWDED, x -> x.pipe(f, t, 9));
      }
    }
    refused("a tenth", FULL, CROWDED, x -> x.pipe(0, 1, 1));
    refused("a tenth, down a long way", FULL, CROWDED, x -> x.pipe(0, 7, 9));
  }

  private static void tape() {
    Checks.topic("12 feed: FULL");
    for (int n = 1; n <= 8; n++) {
      int many = n;
      refused(n + " above 60", FULL, CROWDED, x -> x.feed(-1L, many));
      refused(n + " above " + (61 - n), FULL, taped(61 - n), x -> x.feed(0x3131313131313131L, many));
      FountainTalk x = taped(60 - n).get();
      Checks.due(n + " above " + (60 - n), x.feed(0x3131313131313131L, n), 60);
      Checks.due("FULL", x.told(FULL), 0);
    }
  }

  /** A city with so many bytes on THE TAPE, a TEXT as long as it has an odd number of them. */
  private static Supplier<FountainTalk> taped(int bytes) {
    return () -> {
      FountainTalk x = Cities.some();
      x.text(1);
      Checks.feed(x, "z+".repeat(30).substring(0, bytes));
      return x;
    };
  }

  private static void hearing() {
    Checks.topic("17 heard: NONE");
    for (int what = 0; what <= 1; what++) {
      int w = what;
      refused("up the hill", NONE, SOME, x -> x.heard(2, 5, 0, w));
      refused("over a shut PIPE", NONE, after(SOME, x -> x.turn(0, 0)), x -> x.heard(0, 5, 1, w));
      refused("from one that does not SAY ON", NONE, SOME, x -> x.heard(0, 4, 1, w));
      refused("from another in FROST", NONE, CROWDED, x -> x.heard(6, 5, 7, w));
    }
  }

  /** DAY is as said; three FOUNTAINS with TALK, and all of it in some 370 calls. */
  private static Supplier<FountainTalk> late(int day) {
    return () -> {
      FountainTalk x = new FountainTalk();
      x.fountain(13, 9);
      x.fountain(24, 5);
      x.fountain(31, 1);
      x.pipe(0, 1, 2);
      x.pipe(1, 2, 3);
      for (int left = day; left > 0; left -= 30) x.days(Math.min(30, left));
      x.freeze(3);
      x.let(0, 50);
      x.seed(12345);
      x.tell(50);
      return x;
    };
  }

  private static void lateDays() {
    Checks.topic("19 days, 20 loose: STATE");
    for (int n : new int[] {1, 2, 19, 20, 21, 29, 30}) {
      late("days(" + n + ") from DAY " + (10000 - n), STATE, 10000 - n, x -> x.days(n));
      late("days(" + n + ") from DAY 9999", STATE, 9999, x -> x.days(n));
      FountainTalk x = late(9999 - n).get();
      Checks.due("days(" + n + ") from DAY " + (9999 - n), x.days(n), 9999);
      if (n > 20) continue;
      late("loose(" + n + ") from DAY " + (10000 - n), STATE, 10000 - n, y -> y.loose(n));
      late("loose(" + n + ") from DAY 9999", STATE, 9999, y -> y.loose(n));
      FountainTalk y = late(9999 - n).get();
      Checks.isTrue("loose(" + n + ") from DAY " + (9999 - n), y.loose(n) > 0);
      Checks.due("DAY", y.count(3), 9999);
      Checks.due("STATE", y.told(STATE), 0);
    }
    for (int n : new int[] {MIN, -1, 0, 31, MAX}) late("days(" + n + ") at the end", BEYOND, 9999, x -> x.days(n));
    for (int n : new int[] {MIN, -1, 0, 21, MAX}) late("loose(" + n + ") at the end", BEYOND, 9999, x -> x.loose(n));
  }

  private static void late(String what, int k, int day, ToIntFunction<FountainTalk> call) {
    refused(what, k, late(day), call, Cities::toldAndSeen);
  }

  private static void keys() {
    Checks.topic("22 hush: STATE");
    for (int what = 0; what <= 1; what++) {
      int w = what;
      for (int f = 0; f < 3; f++) {
        int at = f;
        refused("one and the same, " + f, STATE, SOME, x -> x.hush(at, 5, at, w));
      }
      refused("one and the same, 7", STATE, CROWDED, x -> x.hush(7, 99, 7, w));
      Checks.topic("23 reach: NONE");
      refused("up the hill", NONE, SOME, x -> x.reach(2, 5, 0, 99, w));
      refused("sooner than it can", NONE, after(SOME, x -> x.turn(0, 0)), x -> x.reach(0, 5, 1, 5, w));
      refused("in no time", NONE, SOME, x -> x.reach(0, 5, 1, 0, w));
      refused("from one that does not SAY ON", NONE, SOME, x -> x.reach(0, 4, 1, 99, w));
    }
  }

  private static void fits() {
    Checks.topic("25 fits: NONE");
    for (int what = 0; what <= 1; what++) {
      int w = what;
      refused("missing", NONE, SOME, x -> x.fits(3, w));
      refused("missing, in an empty city", NONE, EMPTY, x -> x.fits(0, w));
    }
    refused("there is none", NONE, SOME, x -> x.fits(0, 1));
    refused("there is none, in a full city", NONE, CROWDED, x -> x.fits(3, 1));
    refused("without FOUNTAINS there is none", NONE, after(EMPTY, x -> x.sheet(2, 16, 0)), x -> x.fits(2, 1));
    FountainTalk x = Cities.some();
    Checks.due("what 0 of one that fits none is no ERROR", x.fits(0, 0), 0);
    Checks.due("NONE", x.told(NONE), 0);
  }

  private static void voices() {
    Checks.topic("26 voice: PARTED");
    // the call ahead of it leaves the same TRACE, and nothing else is another
    for (int v : new int[] {MIN, -1, 0, 1, MAX}) {
      Supplier<FountainTalk> city = after(after(SOME, x -> x.become(0, 10)), x -> x.voice(0, 3, v));
      refused("voice(0, 3, " + v + ")", PARTED, city, x -> x.voice(0, 3, v));
    }
    Checks.topic("27 body: NONE");
    for (int i : new int[] {MIN, -1, 0, 1, 29, 30, MAX}) refused("no TRACE, body " + i, NONE, EMPTY, x -> x.body(i));
    for (int i : new int[] {MIN, -1, 5, 29, 30, MAX}) refused("of five, body " + i, NONE, SOME, x -> x.body(i));
    for (int i : new int[] {MIN, -1, 6, 29, 30, MAX}) refused("of six, body " + i, NONE, CROWDED, x -> x.body(i));
  }

  private static void sheets() {
    Checks.topic("28 sheet");
    for (int sheet : new int[] {MIN, -1, 4, MAX}) {
      for (int bits : new int[] {0, 7, 8}) {
        for (int n : new int[] {-1, 1, 25}) {
          refused("sheet(" + sheet + ", " + bits + ", " + n + ")", BEYOND, SOME, x -> x.sheet(sheet, bits, n));
        }
      }
    }
    for (int bits : new int[] {MIN, -32, -16, -8, -1, 1, 7, 9, 15, 17, 24, 31, 33, 64, MAX}) {
      for (int n : new int[] {-1, 0, 25}) {
        refused("sheet(0, " + bits + ", " + n + ")", BEYOND, SOME, x -> x.sheet(0, bits, n));
      }
    }
    for (int bits = 8; bits <= 32; bits *= 2) {
      int b = bits;
      for (int n : new int[] {MIN, -24, -1}) refused("sheet(1, " + b + ", " + n + ")", STATE, SOME, x -> x.sheet(1, b, n));
      for (int n : new int[] {25, 26, MAX}) refused("sheet(1, " + b + ", " + n + ")", BEYOND, SOME, x -> x.sheet(1, b, n));
    }
    Checks.topic("29 put");
    for (int sheet : new int[] {MIN, -1, 4, MAX}) refused("sheet " + sheet, BEYOND, SOME, x -> x.put(sheet, 0, 1));
    for (int i : new int[] {MIN, -1, 0, 1, 24, MAX}) refused("missing, number " + i, NONE, SOME, x -> x.put(3, i, 1));
    for (int i : new int[] {MIN, -1, 3, 23, 24, MAX}) refused("of three, number " + i, BEYOND, SOME, x -> x.put(0, i, 1));
    for (int i : new int[] {MIN, -1, 0, 1, 24, MAX}) refused("of none, number " + i, BEYOND, SOME, x -> x.put(2, i, 1));
    for (int i : new int[] {MIN, -1, 24, 25, MAX}) refused("of 24, number " + i, BEYOND, CROWDED, x -> x.put(3, i, 1));
    Checks.topic("31 talks, 32 judge");
    refused("talks of a missing one", NONE, SOME, x -> x.talks(3));
    refused("talks of a missing one, in an empty city", NONE, EMPTY, x -> x.talks(0));
    refused("judge of a missing one", NONE, SOME, x -> x.judge(3));
    refused("judge of a missing one, in an empty city", NONE, EMPTY, x -> x.judge(0));
  }

  private static void moves() {
    Checks.topic("30 move");
    for (int sheet : new int[] {MIN, -1, 4, MAX}) {
      for (int n : new int[] {-1, 0, 25}) {
        refused("from " + sheet, BEYOND, SOME, x -> x.move(sheet, 0, 0, 0, n));
        refused("to " + sheet, BEYOND, SOME, x -> x.move(0, 0, sheet, 0, n));
        refused("from " + sheet + " to a missing one", BEYOND, SOME, x -> x.move(sheet, -1, 3, 0, n));
        refused("from a missing one to " + sheet, BEYOND, SOME, x -> x.move(3, 0, sheet, -1, n));
      }
    }
    for (int n : new int[] {MIN, -1, 0, 1, 25, MAX}) {
      refused("from a missing one, n " + n, NONE, SOME, x -> x.move(3, 0, 0, 0, n));
      refused("to a missing one, n " + n, NONE, SOME, x -> x.move(0, 0, 3, 0, n));
      refused("a missing one to itself, n " + n, NONE, SOME, x -> x.move(3, 0, 3, 0, n));
      refused("8 bits to 16, n " + n, KIND, SOME, x -> x.move(0, -1, 1, 0, n));
      refused("16 bits to 32, n " + n, KIND, SOME, x -> x.move(1, 0, 2, -1, n));
      refused("32 bits to 8, n " + n, KIND, CROWDED, x -> x.move(2, 0, 3, 24, n));
    }
    for (int n : new int[] {MIN, -1}) refused("n " + n, BEYOND, SOME, x -> x.move(0, 0, 0, 0, n));
    // of 8 bits are SHEET 0, of three numbers, and here SHEET 3, of five
    Supplier<FountainTalk> city = after(SOME, x -> x.sheet(3, 8, 5));
    int[][] odd = {
      {0, 0, 4}, {1, 0, 3}, {3, 0, 1}, {4, 0, 0}, {-1, 0, 1}, {-1, 0, 0}, {0, 3, 3}, {0, 5, 1}, {0, 6, 0}, {0, -1, 1},
      {0, -1, 0}, {0, 0, MAX}, {1, 1, MAX}, {MAX, 0, 1}, {0, MAX, 1}, {MAX, MAX, MAX}, {MAX, MAX, 2}, {MIN, 0, 1}, {0, MIN, 1},
      {MIN, MIN, MIN}, {1, 1, MIN}, {MAX, 0, 0}, {0, MAX, 0}, {MAX, 1, MIN}, {-1, -1, 2}
    };
    for (int[] a : odd) {
      refused("move(0, " + a[0] + ", 3, " + a[1] + ", " + a[2] + ")", BEYOND, city, x -> x.move(0, a[0], 3, a[1], a[2]));
      refused("move(3, " + a[1] + ", 0, " + a[0] + ", " + a[2] + ")", BEYOND, city, x -> x.move(3, a[1], 0, a[0], a[2]));
    }
    refused("25 of 24", BEYOND, CROWDED, x -> x.move(0, 0, 3, 0, 25));
    refused("24 from number 1 on", BEYOND, CROWDED, x -> x.move(0, 1, 3, 0, 24));
    refused("24 to number 1 on", BEYOND, CROWDED, x -> x.move(0, 0, 3, 1, 24));
  }

  private static void images() {
    Checks.topic("34 restore, 35 tell");
    refused("there is no IMAGE", NONE, EMPTY, x -> x.restore());
    refused("there is none of a city with FOUNTAINS", NONE, after(EMPTY, x -> x.fountain(0, 0)), x -> x.restore());
    for (int v : new int[] {MIN, -1, 0, 1, MAX}) refused("a 25th that waits, " + v, FULL, CROWDED, x -> x.tell(v));
  }
}
