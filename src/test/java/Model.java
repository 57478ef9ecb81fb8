import java.util.ArrayDeque;
import java.util.ArrayList;
import java.util.Deque;
import java.util.List;
import java.util.TreeMap;

/**
 * The document once more, by other means than the class: KINDS as Java classes, hearing by the clock,
 * texts by splitting them at their loosest sign, FAULTS by a row of open things.
 */
final class Model {
  static final int LOW = -1000000000;

  static final class Parted extends RuntimeException {
    private static final long serialVersionUID = 1L;
  }

  /** A KIND and a FOUNTAIN of it in one. */
  static class Spout {
    int number, m, height, talk;
    List<Integer> bodies = new ArrayList<>();

    int kind() { return 0; }
    int adds(int z) { return z + 1; }
    boolean on(int z, int frost) { return true; }

    int splashes(int x) { bodies.add(10); return x + number; }
    int lisps(int x) { bodies.add(11); return splashes(x) * 2; }
    int drips(int x) { bodies.add(12); return lisps(x) - m; }

    int parts(int x) {
      bodies.add(13);
      if (m == number) throw new Parted();
      return x / (m - number);
    }
  }

  static class Lion extends Spout {
    @Override int kind() { return 1; }
    @Override int adds(int z) { return super.adds(z) + m; }
    @Override boolean on(int z, int frost) { return z > frost; }
    @Override int splashes(int x) { bodies.add(20); return super.splashes(x) - 4; }
    @Override int parts(int x) { bodies.add(21); return super.parts(x) + lisps(1); }
  }

  static class Dolphin extends Spout {
    @Override int kind() { return 2; }
    @Override int adds(int z) { return 2 * super.adds(z) - m; }
    @Override int lisps(int x) { bodies.add(30); return 0 - super.lisps(x); }
  }

  static class Basin extends Spout {
    @Override int kind() { return 3; }
    @Override boolean on(int z, int frost) { return z % (m + 2) != 0; }
    @Override int drips(int x) { bodies.add(40); return super.drips(x / 2); }
  }

  static class Gorgon extends Lion {
    @Override int kind() { return 4; }
    @Override int adds(int z) { return super.adds(z) + height; }
    @Override boolean on(int z, int frost) { return m > 6 || super.on(z, frost); }
    @Override int splashes(int x) { bodies.add(50); return super.splashes(x) * 3; }
    @Override int drips(int x) { bodies.add(51); return super.drips(x) ^ number; }
  }

  static class Echo extends Dolphin {
    @Override int kind() { return 5; }
    @Override int adds(int z) { return super.adds(z) + talk % 5; }
    @Override boolean on(int z, int frost) { return z < 60 + m; }
    @Override int lisps(int x) { bodies.add(60); return super.lisps(x + 1); }
  }

  static class Polite extends Spout {
    @Override int kind() { return 6; }
    @Override int adds(int z) { return 1 + m % 3; }
    @Override boolean on(int z, int frost) { return frost < 8; }
    @Override int splashes(int x) { bodies.add(70); return 9; }
    @Override int lisps(int x) { bodies.add(71); return super.lisps(x) + m; }
  }

  static Spout made(int km, int number, int height, int talk) {
    Spout f;
    switch (km / 10) {
      case 0: f = new Spout(); break;
      case 1: f = new Lion(); break;
      case 2: f = new Dolphin(); break;
      case 3: f = new Basin(); break;
      case 4: f = new Gorgon(); break;
      case 5: f = new Echo(); break;
      default: f = new Polite();
    }
    f.m = km % 10;
    f.number = number;
    f.height = height;
    f.talk = talk;
    return f;
  }

  static final class Pipe {
    final int from, to, delay;
    boolean open = true;

    Pipe(int from, int to, int delay) {
      this.from = from;
      this.to = to;
      this.delay = delay;
    }
  }

  static final class State {
    List<Spout> fountains = new ArrayList<>();
    List<Pipe> pipes = new ArrayList<>();
    int frost, day, z = 1;
    StringBuilder tape = new StringBuilder();
    String[] texts = new String[2];
    List<Integer> waiting = new ArrayList<>();

    State copy() {
      State s = new State();
      for (Spout f : fountains) s.fountains.add(made(10 * f.kind() + f.m, f.number, f.height, f.talk));
      for (Pipe p : pipes) {
        Pipe q = new Pipe(p.from, p.to, p.delay);
        q.open = p.open;
        s.pipes.add(q);
      }
      s.frost = frost;
      s.day = day;
      s.z = z;
      s.tape.append(tape);
      s.texts = texts.clone();
      s.waiting.addAll(waiting);
      return s;
    }
  }

  private State s = new State();
  private State kept;
  private int images;
  private List<Integer> trace = new ArrayList<>();
  private final int[][] sheets = new int[4][];
  private final int[] bits = new int[4];
  private final int[] told = new int[7];

  private int err(int k) { told[k]++; return LOW - k; }
  private boolean noF(int f) { return f < 0 || f >= s.fountains.size(); }
  private boolean noP(int p) { return p < 0 || p >= s.pipes.size(); }
  private static boolean out(int v, int low, int high) { return v < low || v > high; }

  int fountain(int km, int height) {
    if (out(km, 0, 69) || out(height, 0, 9)) return err(1);
    if (s.fountains.size() == 8) return err(4);
    s.fountains.add(made(km, s.fountains.size(), height, 0));
    return s.fountains.size() - 1;
  }

  int fountainIs(int fountain, int what) {
    if (noF(fountain) || out(what, 0, 3)) return err(1);
    Spout f = s.fountains.get(fountain);
    return new int[] {f.kind(), f.m, f.height, f.talk}[what];
  }

  int become(int fountain, int km) {
    if (noF(fountain) || out(km, 0, 69)) return err(1);
    Spout f = s.fountains.get(fountain);
    s.fountains.set(fountain, made(km, fountain, f.height, f.talk));
    return f.kind();
  }

  int as(int fountain, int kind) {
    if (noF(fountain) || out(kind, 0, 6)) return err(1);
    Spout f = s.fountains.get(fountain);
    Class<?> c = made(10 * kind, 0, 0, 0).getClass();
    return c.isInstance(f) ? f.m : err(5);
  }

  int says(int fountain, int size) {
    if (noF(fountain) || out(size, 1, 99)) return err(1);
    return made(s.fountains.get(fountain), size);
  }

  private int made(Spout f, int z) { return given(0, f.adds(z), f.height, f.kind()); }

  int goesOn(int fountain, int size) {
    if (noF(fountain) || out(size, 1, 99)) return err(1);
    return s.fountains.get(fountain).on(size, s.frost) ? 1 : 0;
  }

  int pipe(int from, int to, int delay) {
    if (noF(from) || noF(to) || out(delay, 1, 9)) return err(1);
    if (s.fountains.get(from).height <= s.fountains.get(to).height) return err(3);
    if (s.pipes.size() == 9) return err(4);
    s.pipes.add(new Pipe(from, to, delay));
    return s.pipes.size() - 1;
  }

  int pipeIs(int pipe, int what) {
    if (noP(pipe) || out(what, 0, 4)) return err(1);
    Pipe p = s.pipes.get(pipe);
    return new int[] {p.from, p.to, p.delay, p.open ? 1 : 0, slow(p)}[what];
  }

  private int slow(Pipe p) {
    return given(1, p.delay, s.frost, s.fountains.get(p.from).height - s.fountains.get(p.to).height);
  }

  int turn(int pipe, int open) {
    if (noP(pipe) || out(open, 0, 1)) return err(1);
    int was = s.pipes.get(pipe).open ? 1 : 0;
    s.pipes.get(pipe).open = open == 1;
    return was;
  }

  int freeze(int v) {
    if (out(v, 0, 9)) return err(1);
    int was = s.frost;
    s.frost = v;
    return was;
  }

  int feed(long word, int n) {
    if (out(n, 1, 8)) return err(1);
    if (s.tape.length() + n > 60) return err(4);
    for (int i = 0; i < n; i++) {
      s.tape.append((char) (word & 255));
      word >>= 8;
    }
    return s.tape.length();
  }

  int text(int use) {
    if (out(use, 0, 1)) return err(1);
    String t = s.tape.toString();
    s.tape.setLength(0);
    int fault = fault(t, use == 0 ? "zhk" : "dfh");
    if (fault >= 0) return -10 - fault;
    s.texts[use] = t;
    return 1;
  }

  /** The FAULT, or -1: what stands open is a row of ( and !; a ( has its own row of signs. */
  static int fault(String t, String names) {
    Deque<Character> open = new ArrayDeque<>();
    Deque<Boolean> compared = new ArrayDeque<>();
    compared.push(false);
    boolean wantsPart = true;
    int digits = 0;
    for (int i = 0; i < t.length(); i++) {
      char c = t.charAt(i);
      boolean digit = c >= '0' && c <= '9';
      if (wantsPart) {
        if (c == '!' || c == '(') {
          if (open.size() == 5) return i;
          open.push(c);
          if (c == '(') compared.push(false);
          continue;
        }
        if (!digit && names.indexOf(c) < 0) return i;
        digits = digit ? 1 : 4;
        wantsPart = false;
        while (!open.isEmpty() && open.peek() == '!') open.pop();
      } else if (digit && digits < 4) {
        digits++;
      } else if (c == ')' && !open.isEmpty()) {
        open.pop();
        compared.pop();
        while (!open.isEmpty() && open.peek() == '!') open.pop();
        digits = 4;
      } else if ("<=>".indexOf(c) >= 0) {
        if (compared.pop()) return i;
        compared.push(true);
        wantsPart = true;
      } else if ("|&".indexOf(c) >= 0) {
        compared.pop();
        compared.push(false);
        wantsPart = true;
      } else if ("+-*/%".indexOf(c) >= 0) {
        wantsPart = true;
      } else {
        return i;
      }
    }
    return wantsPart || !open.isEmpty() ? t.length() : -1;
  }

  /** What a right TEXT gives: it is split at the last of its loosest signs. */
  static int value(String t, String names, int[] v) {
    for (String signs : new String[] {"|", "&", "<=>", "+-", "*/%"}) {
      int depth = 0;
      for (int i = t.length() - 1; i > 0; i--) {
        char c = t.charAt(i);
        if (c == ')') depth++;
        if (c == '(') depth--;
        if (depth == 0 && signs.indexOf(c) >= 0) {
          return joined(c, value(t.substring(0, i), names, v), value(t.substring(i + 1), names, v));
        }
      }
    }
    char first = t.charAt(0);
    if (first == '!') return value(t.substring(1), names, v) == 0 ? 1 : 0;
    if (first == '(') return value(t.substring(1, t.length() - 1), names, v);
    int name = names.indexOf(first);
    return name >= 0 ? v[name] : Integer.parseInt(t);
  }

  static int joined(char sign, int a, int b) {
    switch (sign) {
      case '|': return a != 0 || b != 0 ? 1 : 0;
      case '&': return a != 0 && b != 0 ? 1 : 0;
      case '<': return a < b ? 1 : 0;
      case '=': return a == b ? 1 : 0;
      case '>': return a > b ? 1 : 0;
      case '+': return a + b;
      case '-': return a - b;
      case '*': return a * b;
      case '/': return b == 0 ? 0 : a / b;
      default: return b == 0 ? 0 : a % b;
    }
  }

  private int given(int use, int a, int b, int c) {
    int v = a;
    if (s.texts[use] != null) v = value(s.texts[use], use == 0 ? "zhk" : "dfh", new int[] {a, b, c});
    int most = use == 0 ? 99 : 20;
    return v < 1 ? 1 : v > most ? most : v;
  }

  int untell(int use) {
    if (out(use, 0, 1)) return err(1);
    int was = s.texts[use] == null ? 0 : 1;
    s.texts[use] = null;
    return was;
  }

  int law(int use, int a, int b, int c) { return out(use, 0, 1) ? err(1) : given(use, a, b, c); }

  /** By the clock: for each FOUNTAIN when and in which SIZE, or null. */
  private int[][] spread(int from, int size, int open) {
    int[][] at = new int[s.fountains.size()][];
    TreeMap<Integer, TreeMap<Integer, Integer>> coming = new TreeMap<>();
    coming.computeIfAbsent(0, t -> new TreeMap<>()).put(from, size);
    for (int now = 0; now <= 200; now++) {
      if (!coming.containsKey(now)) continue;
      TreeMap<Integer, Integer> here = coming.get(now);
      for (int f : here.keySet()) {
        if (at[f] != null) continue;
        at[f] = new int[] {now, here.get(f)};
        Spout fountain = s.fountains.get(f);
        if (!fountain.on(at[f][1], s.frost)) continue;
        for (int p = 0; p < s.pipes.size(); p++) {
          Pipe pipe = s.pipes.get(p);
          if (pipe.from != f || (open >> p & 1) == 0) continue;
          coming.computeIfAbsent(now + slow(pipe), t -> new TreeMap<>()).merge(pipe.to, made(fountain, at[f][1]), Math::max);
        }
      }
    }
    return at;
  }

  private int openSet() {
    int set = 0;
    for (int p = 0; p < s.pipes.size(); p++) if (s.pipes.get(p).open) set |= 1 << p;
    return set;
  }

  private static int set(int[][] at) {
    int set = 0;
    for (int f = 0; f < at.length; f++) if (at[f] != null) set |= 1 << f;
    return set;
  }

  int hears(int from, int size) {
    if (noF(from) || out(size, 1, 99)) return err(1);
    return set(spread(from, size, openSet()));
  }

  int heard(int from, int size, int at, int what) {
    if (noF(from) || out(size, 1, 99) || noF(at) || out(what, 0, 1)) return err(1);
    int[] h = spread(from, size, openSet())[at];
    return h == null ? err(2) : h[what];
  }

  int let(int from, int size) {
    if (noF(from) || out(size, 1, 99)) return err(1);
    int[][] at = spread(from, size, openSet());
    for (int f = 0; f < at.length; f++) {
      Spout fountain = s.fountains.get(f);
      if (at[f] != null) fountain.talk = Math.min(99999, fountain.talk + at[f][1]);
    }
    return set(at);
  }

  int days(int n) {
    if (out(n, 1, 30)) return err(1);
    if (s.day + n > 9999) return err(3);
    for (int i = 0; i < n; i++) {
      for (Spout f : s.fountains) f.talk = f.talk - f.talk / 4;
      s.day++;
    }
    return s.day;
  }

  private int draw() {
    s.z = (int) (s.z * 1103515245L + 12345L);
    return s.z >>> 8;
  }

  int loose(int n) {
    if (out(n, 1, 20)) return err(1);
    if (s.day + n > 9999) return err(3);
    int set = 0;
    for (int i = 0; i < n; i++) {
      s.frost = draw() % 10;
      if (!s.fountains.isEmpty()) {
        int first = draw();
        int second = draw();
        set |= let(first % s.fountains.size(), 1 + second % 20);
      }
      s.day++;
    }
    return set;
  }

  int seed(int v) {
    int was = s.z;
    s.z = v;
    return was;
  }

  int hush(int from, int size, int at, int what) {
    if (noF(from) || out(size, 1, 99) || noF(at) || out(what, 0, 1)) return err(1);
    if (from == at) return err(3);
    int open = openSet();
    for (int many = 0; many <= 9; many++) {
      for (int set = 0; set < 512; set++) {
        if (Integer.bitCount(set) != many || (set & open) != set) continue;
        if (spread(from, size, open ^ set)[at] == null) return what == 0 ? many : set;
      }
    }
    throw new IllegalStateException("all shut, and still heard");
  }

  int reach(int from, int size, int at, int by, int what) {
    if (noF(from) || out(size, 1, 99) || noF(at) || out(by, 0, 99) || out(what, 0, 1)) return err(1);
    int open = openSet();
    int shut = (1 << s.pipes.size()) - 1 - open;
    for (int many = 0; many <= 9; many++) {
      for (int set = 0; set < 512; set++) {
        if (Integer.bitCount(set) != many || (set & shut) != set) continue;
        int[] h = spread(from, size, open + set)[at];
        if (h != null && h[0] <= by) return what == 0 ? many : set;
      }
    }
    return err(2);
  }

  int odds(int at, int size, int part) {
    if (noF(at) || out(size, 1, 99) || out(part, 0, 1)) return err(1);
    int above = 0;
    int below = s.fountains.size();
    for (int f = 0; f < below; f++) if (spread(f, size, openSet())[at] != null) above++;
    int a = above;
    int b = below;
    while (b != 0) {
      int rest = a % b;
      a = b;
      b = rest;
    }
    return (part == 0 ? above : below) / a;
  }

  int fits(int sheet, int what) {
    if (out(sheet, 0, 3) || out(what, 0, 1)) return err(1);
    if (sheets[sheet] == null) return err(2);
    List<Integer> found = new ArrayList<>();
    for (int f = 0; f < s.fountains.size(); f++) {
      for (int size = 1; size <= 20; size++) {
        int[][] at = spread(f, size, openSet());
        int right = 0;
        for (int v : sheets[sheet]) {
          if (noF(right) || v != (at[right] == null ? 0 : at[right][1])) break;
          right++;
        }
        if (right == sheets[sheet].length) found.add(100 * f + size);
      }
    }
    if (what == 0) return found.size();
    return found.isEmpty() ? err(2) : found.get(0);
  }

  int voice(int fountain, int voice, int x) {
    if (noF(fountain) || out(voice, 0, 3)) return err(1);
    Spout f = s.fountains.get(fountain);
    f.bodies = new ArrayList<>();
    trace = f.bodies;
    try {
      return voice == 0 ? f.splashes(x) : voice == 1 ? f.lisps(x) : voice == 2 ? f.drips(x) : f.parts(x);
    } catch (Parted parted) {
      return err(6);
    }
  }

  int body(int i) { return i < 0 || i >= trace.size() ? err(2) : trace.get(i); }

  int sheet(int sheet, int bits, int n) {
    if (out(sheet, 0, 3) || !List.of(0, 8, 16, 32).contains(bits)) return err(1);
    if (bits == 0) {
      sheets[sheet] = null;
      return 1;
    }
    if (n < 0) return err(3);
    if (n > 24) return err(1);
    sheets[sheet] = new int[n];
    this.bits[sheet] = bits;
    return 1;
  }

  int put(int sheet, int i, int v) {
    if (out(sheet, 0, 3)) return err(1);
    if (sheets[sheet] == null) return err(2);
    if (out(i, 0, sheets[sheet].length - 1)) return err(1);
    int away = 32 - bits[sheet];
    sheets[sheet][i] = v << away >> away;
    return 1;
  }

  int move(int sheet, int i, int other, int j, int n) {
    if (out(sheet, 0, 3) || out(other, 0, 3)) return err(1);
    if (sheets[sheet] == null || sheets[other] == null) return err(2);
    if (bits[sheet] != bits[other]) return err(5);
    if (n < 0 || i < 0 || j < 0) return err(1);
    if ((long) i + n > sheets[sheet].length || (long) j + n > sheets[other].length) return err(1);
    int[] were = sheets[sheet].clone();
    for (int k = 0; k < n; k++) sheets[other][j + k] = were[i + k];
    return n;
  }

  int talks(int sheet) {
    if (out(sheet, 0, 3)) return err(1);
    if (sheets[sheet] == null) return err(2);
    int many = 0;
    for (int v : sheets[sheet]) {
      if (out(v, 0, 99999) || noF(many)) break;
      s.fountains.get(many).talk = v;
      many++;
    }
    return many;
  }

  int judge(int sheet) {
    if (out(sheet, 0, 3)) return err(1);
    if (sheets[sheet] == null) return err(2);
    int right = 0;
    for (int v : sheets[sheet]) {
      if (noP(right) || v != slow(s.pipes.get(right))) break;
      right++;
    }
    return right;
  }

  int image() {
    kept = s.copy();
    return ++images;
  }

  int restore() {
    if (kept == null) return err(2);
    s = kept.copy();
    return s.day;
  }

  int tell(int v) {
    if (s.waiting.size() == 24) return err(4);
    s.waiting.add(v);
    return s.waiting.size();
  }

  int check() {
    List<Integer> were = s.waiting;
    s.waiting = new ArrayList<>();
    for (int i = 0; i < were.size(); i++) {
      if (noF(i) || s.fountains.get(i).talk != were.get(i)) return i + 1;
    }
    return 0;
  }

  int count(int what) {
    if (out(what, 0, 8)) return err(1);
    return new int[] {
      s.fountains.size(), s.pipes.size(), s.frost, s.day, openSet(), s.tape.length(), s.waiting.size(),
      trace.size(), s.z
    }[what];
  }

  int told(int k) { return out(k, 1, 6) ? err(1) : told[k]; }
}
