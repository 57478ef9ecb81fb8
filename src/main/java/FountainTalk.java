/** A hill city's fountains on one water, and what is said on from each to those below it. */
public final class FountainTalk {
  private static final int LOW = -1000000000;
  private static final int BEYOND = 1;
  private static final int NONE = 2;
  private static final int STATE = 3;
  private static final int FULL = 4;
  private static final int KIND = 5;
  private static final int PARTED = 6;

  private static final int MOST_FOUNTAINS = 8;
  private static final int MOST_PIPES = 9;
  private static final int MOST_BYTES = 60;
  private static final int MOST_WAITING = 24;
  private static final int MOST_TALK = 99999;
  private static final int MOST_SIZE = 99;
  private static final int MOST_SLOW = 20;
  private static final int LAST_DAY = 9999;
  private static final int KINDS = 7;
  private static final int SHEETS = 4;
  private static final int SHEET_LENGTH = 24;
  private static final int TRACE_LENGTH = 30;

  private static final int SPOUT = 0;
  private static final int LION = 1;
  private static final int DOLPHIN = 2;
  private static final int BASIN = 3;
  private static final int GORGON = 4;
  private static final int ECHO = 5;
  private static final int POLITE = 6;

  /** For each KIND, the one that it is under; SPOUT, under none, is its own: no walk leaves it. */
  private static final int[] ABOVE = {SPOUT, SPOUT, SPOUT, SPOUT, LION, DOLPHIN, SPOUT};

  private static final int SAID = 0;
  private static final int SLOW = 1;
  private static final String SAID_NAMES = "zhk";
  private static final String SLOW_NAMES = "dfh";

  private static final int SPLASHES = 0;
  private static final int LISPS = 1;
  private static final int DRIPS = 2;
  private static final int PARTS = 3;

  private final City city;
  private final City kept;
  private int images;
  private final Hearing hearing;
  private final Text draft;
  private final Speaker speaker;
  private final Sheet[] sheets;
  private final int[] errors;

  public FountainTalk() {
    city = new City();
    kept = new City();
    hearing = new Hearing(city);
    draft = new Text();
    speaker = new Speaker();
    sheets = new Sheet[SHEETS];
    for (int i = 0; i < SHEETS; i++) sheets[i] = new Sheet();
    errors = new int[PARTED + 1];
  }

  // ---- fountains, pipes

  public int fountain(int km, int height) {
    if (!isKindAndM(km) || !isDigit(height)) return error(BEYOND);
    if (city.fountains >= MOST_FOUNTAINS) return error(FULL);
    int f = city.fountains;
    city.kind[f] = km / 10;
    city.m[f] = km % 10;
    city.height[f] = height;
    city.talk[f] = 0;
    city.fountains++;
    return f;
  }

  public int fountainIs(int fountain, int what) {
    if (!isFountain(fountain)) return error(BEYOND);
    switch (what) {
      case 0: return city.kind[fountain];
      case 1: return city.m[fountain];
      case 2: return city.height[fountain];
      case 3: return city.talk[fountain];
      default: return error(BEYOND);
    }
  }

  public int become(int fountain, int km) {
    if (!isFountain(fountain) || !isKindAndM(km)) return error(BEYOND);
    int was = city.kind[fountain];
    city.kind[fountain] = km / 10;
    city.m[fountain] = km % 10;
    return was;
  }

  public int as(int fountain, int kind) {
    if (!isFountain(fountain) || kind < 0 || kind >= KINDS) return error(BEYOND);
    if (!isUnder(city.kind[fountain], kind)) return error(KIND);
    return city.m[fountain];
  }

  public int says(int fountain, int size) {
    if (!isSaying(fountain, size)) return error(BEYOND);
    return city.madeOf(fountain, size);
  }

  public int goesOn(int fountain, int size) {
    if (!isSaying(fountain, size)) return error(BEYOND);
    return city.isSaidOn(fountain, size) ? 1 : 0;
  }

  public int pipe(int from, int to, int delay) {
    if (!isFountain(from) || !isFountain(to) || delay < 1 || delay > 9) return error(BEYOND);
    if (city.height[to] >= city.height[from]) return error(STATE);
    if (city.pipes >= MOST_PIPES) return error(FULL);
    int p = city.pipes;
    city.from[p] = from;
    city.to[p] = to;
    city.delay[p] = delay;
    city.open |= 1 << p;
    city.pipes++;
    return p;
  }

  public int pipeIs(int pipe, int what) {
    if (!isPipe(pipe)) return error(BEYOND);
    switch (what) {
      case 0: return city.from[pipe];
      case 1: return city.to[pipe];
      case 2: return city.delay[pipe];
      case 3: return city.open >> pipe & 1;
      case 4: return city.howSlow(pipe);
      default: return error(BEYOND);
    }
  }

  public int turn(int pipe, int open) {
    if (!isPipe(pipe) || !isBit(open)) return error(BEYOND);
    int was = city.open >> pipe & 1;
    if (open != was) city.open ^= 1 << pipe;
    return was;
  }

  public int freeze(int v) {
    if (!isDigit(v)) return error(BEYOND);
    int was = city.frost;
    city.frost = v;
    return was;
  }

  // ---- texts

  public int feed(long word, int n) {
    if (n < 1 || n > 8) return error(BEYOND);
    if (city.taped + n > MOST_BYTES) return error(FULL);
    for (int i = 0; i < n; i++) {
      city.tape[city.taped + i] = (int) (word >>> 8 * i) & 255;
    }
    city.taped += n;
    return city.taped;
  }

  public int text(int use) {
    if (!isBit(use)) return error(BEYOND);
    int fault = draft.read(city.tape, city.taped, use == SAID ? SAID_NAMES : SLOW_NAMES);
    city.taped = 0;
    if (fault >= 0) return -10 - fault;
    city.texts[use].copyFrom(draft);
    return 1;
  }

  public int untell(int use) {
    if (!isBit(use)) return error(BEYOND);
    int was = city.texts[use].stands ? 1 : 0;
    city.texts[use].stands = false;
    return was;
  }

  public int law(int use, int a, int b, int c) {
    if (!isBit(use)) return error(BEYOND);
    return city.given(use, a, b, c);
  }

  // ---- what is heard

  public int hears(int from, int size) {
    if (!isSaying(from, size)) return error(BEYOND);
    hearing.learnSlow();
    hearing.spread(from, size, city.open);
    return hearing.hearers;
  }

  public int heard(int from, int size, int at, int what) {
    if (!isSaying(from, size) || !isFountain(at) || !isBit(what)) return error(BEYOND);
    hearing.learnSlow();
    hearing.spread(from, size, city.open);
    if (!hearing.isHeardAt(at)) return error(NONE);
    return what == 0 ? hearing.when[at] : hearing.sizes[at];
  }

  public int let(int from, int size) {
    if (!isSaying(from, size)) return error(BEYOND);
    return letOut(from, size);
  }

  public int days(int n) {
    if (n < 1 || n > 30) return error(BEYOND);
    if (city.day + n > LAST_DAY) return error(STATE);
    for (int i = 0; i < n; i++) city.passDay();
    return city.day;
  }

  public int loose(int n) {
    if (n < 1 || n > 20) return error(BEYOND);
    if (city.day + n > LAST_DAY) return error(STATE);
    int hearers = 0;
    for (int i = 0; i < n; i++) {
      city.frost = city.draw() % 10;
      if (city.fountains > 0) {
        int from = city.draw() % city.fountains;
        hearers |= letOut(from, 1 + city.draw() % 20);
      }
      city.day++;
    }
    return hearers;
  }

  public int seed(int v) {
    int was = city.z;
    city.z = v;
    return was;
  }

  // ---- keys, first sayings

  public int hush(int from, int size, int at, int what) {
    if (!isSaying(from, size) || !isFountain(at) || !isBit(what)) return error(BEYOND);
    if (from == at) return error(STATE);
    int set = fewestToShut(from, size, at);
    return what == 0 ? Integer.bitCount(set) : set;
  }

  public int reach(int from, int size, int at, int by, int what) {
    if (!isSaying(from, size) || !isFountain(at)) return error(BEYOND);
    if (by < 0 || by > 99 || !isBit(what)) return error(BEYOND);
    int set = fewestToOpen(from, size, at, by);
    if (set < 0) return error(NONE);
    return what == 0 ? Integer.bitCount(set) : set;
  }

  public int odds(int at, int size, int part) {
    if (!isSaying(at, size) || !isBit(part)) return error(BEYOND);
    hearing.learnSlow();
    int above = 0;
    for (int from = 0; from < city.fountains; from++) {
      hearing.spread(from, size, city.open);
      if (hearing.isHeardAt(at)) above++;
    }
    int by = commonDivisor(above, city.fountains);
    return (part == 0 ? above : city.fountains) / by;
  }

  public int fits(int sheet, int what) {
    if (!isSheet(sheet) || !isBit(what)) return error(BEYOND);
    if (sheets[sheet].isMissing()) return error(NONE);
    hearing.learnSlow();
    int fitting = 0;
    int least = -1;
    for (int from = 0; from < city.fountains; from++) {
      for (int size = 1; size <= 20; size++) {
        hearing.spread(from, size, city.open);
        if (!isHeardAsIn(sheets[sheet])) continue;
        fitting++;
        if (least < 0) least = 100 * from + size;
      }
    }
    if (what == 0) return fitting;
    return least < 0 ? error(NONE) : least;
  }

  // ---- voices, sheets, images, what is told

  public int voice(int fountain, int voice, int x) {
    if (!isFountain(fountain) || voice < 0 || voice > 3) return error(BEYOND);
    int answer = speaker.answer(city, fountain, voice, x);
    return speaker.parted ? error(PARTED) : answer;
  }

  public int body(int i) {
    if (i < 0 || i >= speaker.begun) return error(NONE);
    return speaker.bodies[i];
  }

  public int sheet(int sheet, int bits, int n) {
    if (!isSheet(sheet)) return error(BEYOND);
    if (bits != 0 && bits != 8 && bits != 16 && bits != 32) return error(BEYOND);
    if (bits != 0 && n < 0) return error(STATE);
    if (bits != 0 && n > SHEET_LENGTH) return error(BEYOND);
    sheets[sheet].begin(bits, bits == 0 ? 0 : n);
    return 1;
  }

  public int put(int sheet, int i, int v) {
    if (!isSheet(sheet)) return error(BEYOND);
    Sheet row = sheets[sheet];
    if (row.isMissing()) return error(NONE);
    if (i < 0 || i >= row.length) return error(BEYOND);
    row.numbers[i] = row.lowestBits(v);
    return 1;
  }

  public int move(int sheet, int i, int other, int j, int n) {
    if (!isSheet(sheet) || !isSheet(other)) return error(BEYOND);
    Sheet row = sheets[sheet];
    Sheet goal = sheets[other];
    if (row.isMissing() || goal.isMissing()) return error(NONE);
    if (row.bits != goal.bits) return error(KIND);
    if (!row.has(i, n) || !goal.has(j, n)) return error(BEYOND);
    System.arraycopy(row.numbers, i, goal.numbers, j, n);
    return n;
  }

  public int talks(int sheet) {
    if (!isSheet(sheet)) return error(BEYOND);
    Sheet row = sheets[sheet];
    if (row.isMissing()) return error(NONE);
    int n = Math.min(row.length, city.fountains);
    for (int f = 0; f < n; f++) {
      int v = row.numbers[f];
      if (v < 0 || v > MOST_TALK) return f;
      city.talk[f] = v;
    }
    return n;
  }

  public int judge(int sheet) {
    if (!isSheet(sheet)) return error(BEYOND);
    Sheet row = sheets[sheet];
    if (row.isMissing()) return error(NONE);
    int n = Math.min(row.length, city.pipes);
    for (int p = 0; p < n; p++) {
      if (row.numbers[p] != city.howSlow(p)) return p;
    }
    return n;
  }

  public int image() {
    kept.copyFrom(city);
    images++;
    return images;
  }

  public int restore() {
    if (images == 0) return error(NONE);
    city.copyFrom(kept);
    return city.day;
  }

  public int tell(int v) {
    if (city.waits >= MOST_WAITING) return error(FULL);
    city.waiting[city.waits] = v;
    city.waits++;
    return city.waits;
  }

  public int check() {
    int n = city.waits;
    city.waits = 0;
    for (int i = 0; i < n; i++) {
      if (i >= city.fountains || city.waiting[i] != city.talk[i]) return 1 + i;
    }
    return 0;
  }

  public int count(int what) {
    switch (what) {
      case 0: return city.fountains;
      case 1: return city.pipes;
      case 2: return city.frost;
      case 3: return city.day;
      case 4: return city.open;
      case 5: return city.taped;
      case 6: return city.waits;
      case 7: return speaker.begun;
      case 8: return city.z;
      default: return error(BEYOND);
    }
  }

  public int told(int k) {
    if (k < BEYOND || k > PARTED) return error(BEYOND);
    return errors[k];
  }

  // ---- what arguments are

  private int error(int k) {
    errors[k]++;
    return LOW - k;
  }

  private static boolean isBit(int v) {
    return v == 0 || v == 1;
  }

  private static boolean isDigit(int v) {
    return v >= 0 && v <= 9;
  }

  private static boolean isKindAndM(int km) {
    return km >= 0 && km < 10 * KINDS;
  }

  private boolean isFountain(int f) {
    return f >= 0 && f < city.fountains;
  }

  private boolean isPipe(int p) {
    return p >= 0 && p < city.pipes;
  }

  private boolean isSaying(int from, int size) {
    return isFountain(from) && size >= 1 && size <= MOST_SIZE;
  }

  private static boolean isSheet(int sheet) {
    return sheet >= 0 && sheet < SHEETS;
  }

  private static boolean isUnder(int kind, int above) {
    int k = kind;
    for (int i = 0; i < KINDS && k != above; i++) k = ABOVE[k];
    return k == above;
  }

  private static int commonDivisor(int a, int b) {
    for (int by = b; by > 1; by--) {
      if (a % by == 0 && b % by == 0) return by;
    }
    return 1;
  }

  // ---- what acts are made of

  private int letOut(int from, int size) {
    hearing.learnSlow();
    hearing.spread(from, size, city.open);
    for (int f = 0; f < city.fountains; f++) {
      if (hearing.isHeardAt(f)) {
        city.talk[f] = Math.min(MOST_TALK, city.talk[f] + hearing.sizes[f]);
      }
    }
    return hearing.hearers;
  }

  // The sets come in rising order, so of those with as few PIPES the first one is the least.
  private int fewestToShut(int from, int size, int at) {
    hearing.learnSlow();
    int best = city.open;
    for (int set = 0; set < 1 << city.pipes; set++) {
      if ((set & ~city.open) != 0) continue;
      if (Integer.bitCount(set) >= Integer.bitCount(best)) continue;
      hearing.spread(from, size, city.open & ~set);
      if (!hearing.isHeardAt(at)) best = set;
    }
    return best;
  }

  /** The set, or -1 if none does. An early SIZE may hush a later one: all sets are tried. */
  private int fewestToOpen(int from, int size, int at, int by) {
    hearing.learnSlow();
    int best = -1;
    for (int set = 0; set < 1 << city.pipes; set++) {
      if ((set & city.open) != 0) continue;
      if (best >= 0 && Integer.bitCount(set) >= Integer.bitCount(best)) continue;
      hearing.spread(from, size, city.open | set);
      if (hearing.isHeardAt(at) && hearing.when[at] <= by) best = set;
    }
    return best;
  }

  /** A number for which there is no FOUNTAIN is never right, not even 0: that tells of one that is there. */
  private boolean isHeardAsIn(Sheet row) {
    if (row.length > city.fountains) return false;
    for (int f = 0; f < row.length; f++) {
      int size = hearing.isHeardAt(f) ? hearing.sizes[f] : 0;
      if (row.numbers[f] != size) return false;
    }
    return true;
  }

  /** All that an IMAGE keeps. */
  static final class City {
    int fountains;
    final int[] kind = new int[MOST_FOUNTAINS];
    final int[] m = new int[MOST_FOUNTAINS];
    final int[] height = new int[MOST_FOUNTAINS];
    final int[] talk = new int[MOST_FOUNTAINS];
    int pipes;
    final int[] from = new int[MOST_PIPES];
    final int[] to = new int[MOST_PIPES];
    final int[] delay = new int[MOST_PIPES];
    int open;
    int frost;
    int day;
    int z = 1;
    final int[] tape = new int[MOST_BYTES];
    int taped;
    final Text[] texts = {new Text(), new Text()};
    final int[] waiting = new int[MOST_WAITING];
    int waits;

    /** What a FOUNTAIN makes of a SAYING of SIZE z. */
    int madeOf(int f, int z) {
      return given(SAID, withAdded(f, z), height[f], kind[f]);
    }

    private int withAdded(int f, int z) {
      switch (kind[f]) {
        case LION: return z + 1 + m[f];
        case DOLPHIN: return 2 * (z + 1) - m[f];
        case GORGON: return z + 1 + m[f] + height[f];
        case ECHO: return 2 * (z + 1) - m[f] + talk[f] % 5;
        case POLITE: return 1 + m[f] % 3;
        default: return z + 1;
      }
    }

    boolean isSaidOn(int f, int z) {
      switch (kind[f]) {
        case LION: return z > frost;
        case BASIN: return z % (m[f] + 2) != 0;
        case GORGON: return z > frost || m[f] > 6;
        case ECHO: return z < 60 + m[f];
        case POLITE: return frost < 8;
        default: return true;
      }
    }

    int howSlow(int p) {
      return given(SLOW, delay[p], frost, height[from[p]] - height[to[p]]);
    }

    int given(int use, int a, int b, int c) {
      int v = texts[use].stands ? texts[use].value(a, b, c) : a;
      return Math.max(1, Math.min(use == SAID ? MOST_SIZE : MOST_SLOW, v));
    }

    void passDay() {
      for (int f = 0; f < fountains; f++) talk[f] -= talk[f] / 4;
      day++;
    }

    int draw() {
      z = z * 1103515245 + 12345;
      return z >>> 8;
    }

    void copyFrom(City other) {
      fountains = other.fountains;
      System.arraycopy(other.kind, 0, kind, 0, MOST_FOUNTAINS);
      System.arraycopy(other.m, 0, m, 0, MOST_FOUNTAINS);
      System.arraycopy(other.height, 0, height, 0, MOST_FOUNTAINS);
      System.arraycopy(other.talk, 0, talk, 0, MOST_FOUNTAINS);
      pipes = other.pipes;
      System.arraycopy(other.from, 0, from, 0, MOST_PIPES);
      System.arraycopy(other.to, 0, to, 0, MOST_PIPES);
      System.arraycopy(other.delay, 0, delay, 0, MOST_PIPES);
      open = other.open;
      frost = other.frost;
      day = other.day;
      z = other.z;
      System.arraycopy(other.tape, 0, tape, 0, MOST_BYTES);
      taped = other.taped;
      texts[SAID].copyFrom(other.texts[SAID]);
      texts[SLOW].copyFrom(other.texts[SLOW]);
      System.arraycopy(other.waiting, 0, waiting, 0, MOST_WAITING);
      waits = other.waits;
    }
  }

  /** Where, when and in which SIZE the latest SAYING that was thought of is heard. */
  static final class Hearing {
    static final int NEVER = 1000000;

    final City city;
    final int[] slow = new int[MOST_PIPES];
    final int[] when = new int[MOST_FOUNTAINS];
    final int[] sizes = new int[MOST_FOUNTAINS];
    int hearers;

    Hearing(City city) {
      this.city = city;
    }

    /** HOW SLOW the PIPES are: once for all the SAYINGS of an act (a draw may change FROST). */
    void learnSlow() {
      for (int p = 0; p < city.pipes; p++) slow[p] = city.howSlow(p);
    }

    void spread(int first, int size, int open) {
      for (int f = 0; f < MOST_FOUNTAINS; f++) when[f] = NEVER;
      hearers = 0;
      arrive(first, 0, size);
      int f = first;
      for (int i = 0; i < MOST_FOUNTAINS && f >= 0; i++) {
        hearers |= 1 << f;
        if (city.isSaidOn(f, sizes[f])) sayOver(f, open);
        f = nextToHear();
      }
    }

    boolean isHeardAt(int f) {
      return when[f] < NEVER;
    }

    /** Every PIPE takes some time, so to the earliest of the others nothing more can come. */
    private int nextToHear() {
      int next = -1;
      for (int f = 0; f < city.fountains; f++) {
        if ((hearers >> f & 1) != 0 || !isHeardAt(f)) continue;
        if (next < 0 || when[f] < when[next]) next = f;
      }
      return next;
    }

    private void sayOver(int f, int open) {
      int made = city.madeOf(f, sizes[f]);
      for (int p = 0; p < city.pipes; p++) {
        if ((open >> p & 1) != 0 && city.from[p] == f) arrive(city.to[p], when[f] + slow[p], made);
      }
    }

    private void arrive(int f, int time, int size) {
      if (time < when[f]) {
        when[f] = time;
        sizes[f] = size;
      } else if (time == when[f]) {
        sizes[f] = Math.max(sizes[f], size);
      }
    }
  }

  /** The law of a USE, as steps that work on a stack; and how one is read. */
  static final class Text {
    static final int SIGN = 100000;
    static final int MOST_OPEN = 5;
    static final int OR = 0;
    static final int AND = 1;
    static final int COMPARISON = 2;
    static final int SUM = 3;
    static final int PRODUCT = 4;
    static final int PART = 5;

    boolean stands;
    int length;
    final int[] steps = new int[MOST_BYTES];
    final int[] stack = new int[MOST_BYTES];
    int[] tape;
    int end;
    int at;
    boolean stuck;
    String names;

    void copyFrom(Text other) {
      stands = other.stands;
      length = other.length;
      System.arraycopy(other.steps, 0, steps, 0, MOST_BYTES);
    }

    int value(int a, int b, int c) {
      int depth = 0;
      for (int i = 0; i < length; i++) {
        int step = steps[i];
        if (step == SIGN + '!') {
          if (depth > 0) stack[depth - 1] = stack[depth - 1] == 0 ? 1 : 0;
        } else if (step >= SIGN) {
          if (depth > 1) {
            depth--;
            stack[depth - 1] = joined(step - SIGN, stack[depth - 1], stack[depth]);
          }
        } else if (depth < MOST_BYTES) {
          stack[depth] = step >= 0 ? step : step == -1 ? a : step == -2 ? b : c;
          depth++;
        }
      }
      return depth > 0 ? stack[0] : 0;
    }

    private static int joined(int sign, int a, int b) {
      switch (sign) {
        case '+': return a + b;
        case '-': return a - b;
        case '*': return a * b;
        case '/': return b == 0 ? 0 : a / b;
        case '%': return b == 0 ? 0 : a % b;
        case '<': return a < b ? 1 : 0;
        case '=': return a == b ? 1 : 0;
        case '>': return a > b ? 1 : 0;
        case '&': return a != 0 && b != 0 ? 1 : 0;
        default: return a != 0 || b != 0 ? 1 : 0;
      }
    }

    /** Reads all the bytes as a T: the FAULT, or -1 if there is none. */
    int read(int[] bytes, int many, String nameSigns) {
      tape = bytes;
      end = many;
      names = nameSigns;
      at = 0;
      length = 0;
      stuck = false;
      readLevel(OR, 0);
      if (at < end) stuck = true;
      stands = !stuck;
      return stuck ? at : -1;
    }

    /** Reads what the signs of a level join, which is of the next level each. */
    private void readLevel(int level, int open) {
      if (level == PART) {
        readPart(open);
        return;
      }
      readLevel(level + 1, open);
      int sign = takeSign(level);
      for (int i = 0; i < MOST_BYTES && sign != 0; i++) {
        readLevel(level + 1, open);
        addStep(SIGN + sign);
        sign = level == COMPARISON ? 0 : takeSign(level);
      }
    }

    private void readPart(int open) {
      if (stuck) return;
      int next = peek();
      if (next >= '0' && next <= '9') {
        readNumber();
      } else if (next == '!' || next == '(') {
        readOpened(next, open);
      } else {
        readName(next);
      }
    }

    private void readNumber() {
      int v = 0;
      for (int i = 0; i < 4 && peek() >= '0' && peek() <= '9'; i++) {
        v = 10 * v + peek() - '0';
        at++;
      }
      addStep(v);
    }

    private void readName(int next) {
      int name = next < 0 ? -1 : names.indexOf((char) next);
      if (name < 0) {
        stuck = true;
      } else {
        at++;
        addStep(-1 - name);
      }
    }

    private void readOpened(int next, int open) {
      if (open >= MOST_OPEN) {
        stuck = true;
        return;
      }
      at++;
      if (next == '!') {
        readPart(open + 1);
        addStep(SIGN + '!');
      } else {
        readLevel(OR, open + 1);
        if (!stuck && peek() == ')') at++;
        else stuck = true;
      }
    }

    /** The byte at which the reading stands, or -1 at the end. */
    private int peek() {
      return at < end ? tape[at] : -1;
    }

    /** Goes over the next byte if it is a sign of a level: that byte, else 0. */
    private int takeSign(int level) {
      int next = peek();
      if (stuck || levelOf(next) != level) return 0;
      at++;
      return next;
    }

    private static int levelOf(int sign) {
      switch (sign) {
        case '|': return OR;
        case '&': return AND;
        case '<': case '=': case '>': return COMPARISON;
        case '+': case '-': return SUM;
        case '*': case '/': case '%': return PRODUCT;
        default: return PART;
      }
    }

    private void addStep(int step) {
      if (stuck || length >= MOST_BYTES) return;
      steps[length] = step;
      length++;
    }
  }

  /** A row of numbers of 8, 16 or 32 bits, or (of 0 bits) none. */
  static final class Sheet {
    int bits;
    int length;
    final int[] numbers = new int[SHEET_LENGTH];

    void begin(int itsBits, int itsLength) {
      bits = itsBits;
      length = itsLength;
      for (int i = 0; i < SHEET_LENGTH; i++) numbers[i] = 0;
    }

    boolean isMissing() {
      return bits == 0;
    }

    /** Whether n numbers from number i on all stand here. */
    boolean has(int i, int n) {
      return n >= 0 && i >= 0 && n <= length - i;
    }

    int lowestBits(int v) {
      if (bits == 8) return (byte) v;
      if (bits == 16) return (short) v;
      return v;
    }
  }

  /** A FOUNTAIN while its VOICES speak, and THE TRACE: the BODIES that began, also if it PARTED then. */
  static final class Speaker {
    /** By KIND, its BODY of each VOICE, or 0. */
    static final int[] BODIES = {
      10, 11, 12, 13,
      20, 0, 0, 21,
      0, 30, 0, 0,
      0, 0, 40, 0,
      50, 0, 51, 0,
      0, 60, 0, 0,
      70, 71, 0, 0
    };
    static final int VOICES = 4;
    static final int DEEPEST = 20;

    int kind;
    int k;
    int m;
    boolean parted;
    final int[] bodies = new int[TRACE_LENGTH];
    int begun;

    int answer(City city, int fountain, int voice, int x) {
      kind = city.kind[fountain];
      k = fountain;
      m = city.m[fountain];
      parted = false;
      begun = 0;
      return speak(kind, voice, x, 0);
    }

    /** The BODY of a KIND, or of the next KIND above that has one. */
    private int speak(int from, int voice, int x, int depth) {
      if (parted || depth >= DEEPEST) return 0;
      int its = from;
      for (int i = 0; i < KINDS && BODIES[VOICES * its + voice] == 0; i++) its = ABOVE[its];
      int body = BODIES[VOICES * its + voice];
      begin(body);
      int above = ABOVE[its];
      int next = depth + 1;
      switch (body) {
        case 10: return x + k;
        case 11: return speak(kind, SPLASHES, x, next) * 2;
        case 12: return speak(kind, LISPS, x, next) - m;
        case 13: return part(x);
        case 20: return speak(above, SPLASHES, x, next) - 4;
        case 21: return speak(above, PARTS, x, next) + speak(kind, LISPS, 1, next);
        case 30: return 0 - speak(above, LISPS, x, next);
        case 40: return speak(above, DRIPS, x / 2, next);
        case 50: return speak(above, SPLASHES, x, next) * 3;
        case 51: return speak(above, DRIPS, x, next) ^ k;
        case 60: return speak(above, LISPS, x + 1, next);
        case 70: return 9;
        case 71: return speak(above, LISPS, x, next) + m;
        default: return 0;
      }
    }

    private int part(int x) {
      int by = m - k;
      if (by == 0) {
        parted = true;
        return 0;
      }
      return x / by;
    }

    private void begin(int body) {
      if (begun >= TRACE_LENGTH) return;
      bodies[begun] = body;
      begun++;
    }
  }
}
