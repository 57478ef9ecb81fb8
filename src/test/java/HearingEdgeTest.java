import java.math.BigInteger;

/** 'Terms' 1, who hears what when, TALK, DAYS and DRAWS. */
public final class HearingEdgeTest extends Edges {
  public static void main(String[] args) {
    termsOfHearing();
    termsOfDays();
    Checks.end();
  }

  // ---- 1: who hears what when

  private static void termsOfHearing() {
    oneThatHearsItself();
    downTheLongestChain();
    numberedFromTheFoot();
    theShortWayIsTheSlowOne();
    asSlowAsMayBe();
    atOnceOverSeveral();
    oneTickEarlier();
    whatIsHeardIsWhatGoesOn();
    talkIsHeld();
    talkIsAsAtTheBegin();
  }

  private static void oneThatHearsItself() {
    Checks.topic("a SAYING's FOUNTAIN hears it at 0 in that SIZE");
    for (int size : new int[] {1, 2, 98, 99}) {
      for (int kind = 0; kind < 7; kind++) {
        FountainTalk x = one(10 * kind + 9, 9);
        x.freeze(9);
        due("hears", x.hears(0, size), 1);
        due("when", x.heard(0, size, 0, 0), 0);
        due("in which SIZE", x.heard(0, size, 0, 1), size);
        due("let", x.let(0, size), 1);
        due("TALK", x.fountainIs(0, 3), size);
        noErrors(x);
      }
    }
  }

  private static void downTheLongestChain() {
    Checks.topic("who hears what when, down eight FOUNTAINS");
    FountainTalk x = chain(8, 1);
    due("hears from the top", x.hears(0, 1), 255);
    due("hears from the last", x.hears(7, 99), 128);
    for (int f = 0; f < 8; f++) {
      due("when at " + f, x.heard(0, 1, f, 0), f);
      due("SIZE at " + f, x.heard(0, 1, f, 1), 1 + f);
      due("SIZE held at " + f, x.heard(0, 95, f, 1), Math.min(99, 95 + f));
      due("hears from " + f, x.hears(f, 50), 256 - (1 << f));
    }
    due("let", x.let(0, 93), 255);
    for (int f = 0; f < 8; f++) due("TALK of " + f, x.fountainIs(f, 3), Math.min(99, 93 + f));
    x.turn(6, 0);
    due("the last PIPE shut", x.hears(0, 1), 127);
    x.turn(0, 0);
    due("the first PIPE shut", x.hears(0, 1), 1);
    noErrors(x);
  }

  private static void numberedFromTheFoot() {
    Checks.topic("who hears what when, FOUNTAIN 7 being the highest");
    FountainTalk x = new FountainTalk();
    for (int f = 0; f < 8; f++) x.fountain(0, 2 + f);
    for (int f = 0; f < 7; f++) x.pipe(f + 1, f, 1 + f);
    int time = 0;
    for (int f = 7; f >= 0; f--) {
      due("when at " + f, x.heard(7, 1, f, 0), time);
      due("SIZE at " + f, x.heard(7, 1, f, 1), 8 - f);
      due("hears from " + f, x.hears(f, 1), (2 << f) - 1);
      time += f;
    }
    // 0 is no end here: what it hears goes on to 1
    FountainTalk y = one(0, 5);
    y.fountain(0, 0);
    y.fountain(0, 9);
    y.pipe(2, 0, 2);
    y.pipe(0, 1, 3);
    due("hears from 2", y.hears(2, 1), 7);
    due("when at 1", y.heard(2, 1, 1, 0), 5);
    y.fountain(0, 4);
    y.pipe(2, 3, 1);
    y.pipe(3, 1, 1);
    due("hears from 2", y.hears(2, 1), 15);
    due("when at 1, over 3", y.heard(2, 1, 1, 0), 2);
    due("when at 0, later", y.heard(2, 1, 0, 0), 2);
    due("hush of both", y.hush(2, 1, 1, 0), 2);
    noErrors(y);
    // 1 would hear it straight from 2, but 0 is earlier
    FountainTalk z = one(0, 5);
    z.fountain(0, 3);
    z.fountain(0, 9);
    z.fountain(0, 0);
    z.pipe(2, 1, 9);
    z.pipe(2, 0, 1);
    z.pipe(0, 1, 1);
    z.pipe(1, 3, 1);
    int[] when = {1, 2, 0, 3};
    for (int f = 0; f < 4; f++) due("when at " + f, z.heard(2, 1, f, 0), when[f]);
  }

  /** Each FOUNTAIN has a slow PIPE straight from the top and a quick one from the next above it. */
  private static void theShortWayIsTheSlowOne() {
    Checks.topic("when it first comes: by the long way, and it is said on from then");
    FountainTalk x = chain(5, 1);
    for (int f = 2; f < 5; f++) x.pipe(0, f, 9);
    for (int f = 0; f < 5; f++) {
      due("when at " + f, x.heard(0, 1, f, 0), f);
      due("SIZE at " + f, x.heard(0, 1, f, 1), 1 + f);
    }
    x.turn(0, 0);
    int[] when = {0, -1000000002, 9, 9, 9};
    int[] size = {1, -1000000002, 2, 2, 2};
    for (int f = 0; f < 5; f++) {
      due("PIPE 0 shut: when at " + f, x.heard(0, 1, f, 0), when[f]);
      due("PIPE 0 shut: SIZE at " + f, x.heard(0, 1, f, 1), size[f]);
    }
    x.turn(0, 1);
    x.turn(2, 0);
    int[] later = {0, 1, 2, 9, 9};
    for (int f = 0; f < 5; f++) due("PIPE 2 shut: when at " + f, x.heard(0, 1, f, 0), later[f]);
  }

  private static void asSlowAsMayBe() {
    Checks.topic("seven PIPES of 20");
    FountainTalk x = chain(8, 9);
    Checks.text(x, 1, "20");
    for (int f = 0; f < 8; f++) due("when at " + f, x.heard(0, 1, f, 0), 20 * f);
    due("hears", x.hears(0, 1), 255);
    noErrors(x);
  }

  /** Three ways to FOUNTAIN 4: over 1 in SIZE 3, over 2 in SIZE 13, over 3 in SIZE 8; PIPES in a given order. */
  private static FountainTalk threeWays(int[] order, int[] delays) {
    FountainTalk x = one(0, 9);
    x.fountain(0, 5);
    x.fountain(19, 5);
    x.fountain(14, 5);
    x.fountain(0, 0);
    for (int way : order) x.pipe(0, way, 1);
    for (int way : order) x.pipe(way, 4, delays[way - 1]);
    return x;
  }

  private static void atOnceOverSeveral() {
    Checks.topic("over several PIPES then: in the greatest SIZE of these");
    int[][] orders = {{1, 2, 3}, {1, 3, 2}, {2, 1, 3}, {2, 3, 1}, {3, 1, 2}, {3, 2, 1}};
    for (int[] order : orders) {
      FountainTalk x = threeWays(order, new int[] {2, 2, 2});
      due("when", x.heard(0, 1, 4, 0), 3);
      due("in which SIZE", x.heard(0, 1, 4, 1), 12);
      FountainTalk y = threeWays(order, new int[] {2, 3, 2});
      due("the greatest comes later", y.heard(0, 1, 4, 1), 7);
      FountainTalk z = threeWays(order, new int[] {2, 3, 3});
      due("the least comes first", z.heard(0, 1, 4, 1), 3);
      FountainTalk w = threeWays(order, new int[] {9, 8, 9});
      due("the greatest comes first", w.heard(0, 1, 4, 1), 12);
      due("and when", w.heard(0, 1, 4, 0), 9);
    }
  }

  /** Straight down in SIZE 2, or by way of a LION in SIZE 12. */
  private static void oneTickEarlier() {
    Checks.topic("when it first comes");
    for (int delay = 1; delay <= 9; delay++) {
      FountainTalk x = one(0, 9);
      x.fountain(19, 5);
      x.fountain(0, 0);
      x.pipe(0, 1, 2);
      x.pipe(1, 2, 3);
      x.pipe(0, 2, delay);
      due("when, straight " + delay, x.heard(0, 1, 2, 0), Math.min(5, delay));
      due("in which SIZE, straight " + delay, x.heard(0, 1, 2, 1), delay < 5 ? 2 : 12);
      x.let(0, 1);
      due("TALK: once", x.fountainIs(2, 3), delay < 5 ? 2 : 12);
    }
  }

  private static void whatIsHeardIsWhatGoesOn() {
    Checks.topic("each that hears it as z, and SAYS it ON as z");
    FountainTalk x = chain(3, 1);
    x.become(1, 10);
    x.freeze(9);
    due("9 is heard by the LION, and not SAID ON", x.hears(0, 8), 3);
    due("10 is heard by the LION, and SAID ON", x.hears(0, 9), 7);
    x.become(1, 50);
    due("59 by the ECHO", x.hears(0, 58), 7);
    due("60 by the ECHO", x.hears(0, 59), 3);
    Checks.text(x, 0, "1");
    due("1 by the TEXT", x.hears(0, 99), 7);
    Checks.text(x, 0, "99");
    due("99 by the TEXT", x.hears(0, 1), 3);
  }

  private static void talkIsHeld() {
    Checks.topic("TALK is more by the SIZE (held at 99999)");
    int[][] rows = {
      {0, 1, 1}, {0, 99, 99}, {99998, 1, 99999}, {99999, 1, 99999}, {99900, 99, 99999}, {99901, 99, 99999},
      {99899, 99, 99998}, {99999, 99, 99999}, {99901, 98, 99999}, {99901, 97, 99998}
    };
    for (int[] row : rows) {
      FountainTalk x = one(0, 0, row[0]);
      due("let", x.let(0, row[1]), 1);
      due("TALK " + row[0] + " and " + row[1], x.fountainIs(0, 3), row[2]);
      noErrors(x);
    }
    FountainTalk x = chain(2, 1);
    Checks.talk(x, 99998, 99998);
    x.let(0, 1);
    due("TALK, not held", x.fountainIs(0, 3), 99999);
    due("TALK, held", x.fountainIs(1, 3), 99999);
    x.turn(0, 0);
    Checks.talk(x, 7, 8);
    x.let(0, 9);
    due("TALK of the one that hears", x.fountainIs(0, 3), 16);
    due("TALK of the one that does not", x.fountainIs(1, 3), 8);
  }

  private static void talkIsAsAtTheBegin() {
    Checks.topic("TALK and FROST are as at the begin, all the while");
    FountainTalk x = chain(3, 1);
    x.become(0, 50);
    x.become(1, 50);
    Checks.talk(x, 4, 4, 0);
    due("let", x.let(0, 1), 7);
    due("TALK of 0", x.fountainIs(0, 3), 5);
    due("TALK of 1: 2 * 2 + 4", x.fountainIs(1, 3), 4 + 8);
    due("TALK of 2: 2 * 9 + 4", x.fountainIs(2, 3), 22);
    due("then with 5 and 12", x.heard(0, 1, 2, 1), 2 * (4 + 1) + 2);
  }

  // ---- 1: DAYS

  private static void termsOfDays() {
    lessByAFourth();
    daysUpToTheLast();
    drawsWrap();
    drawsAtTheirEnds();
    drawsWithoutFountains();
    looseIsManyDays();
  }

  private static void lessByAFourth() {
    Checks.topic("of each FOUNTAIN TALK is less by a fourth of it (cut)");
    int[][] rows = {{0, 0}, {1, 1}, {2, 2}, {3, 3}, {4, 3}, {5, 4}, {7, 6}, {8, 6}, {99999, 75000}, {99996, 74997}};
    for (int[] row : rows) {
      FountainTalk x = one(0, 0, row[0]);
      due("DAY", x.days(1), 1);
      due("TALK of " + row[0], x.fountainIs(0, 3), row[1]);
    }
    FountainTalk x = chain(8, 1);
    Checks.talk(x, 4, 8, 12, 16, 20, 24, 28, 32);
    x.days(1);
    for (int f = 0; f < 8; f++) due("TALK of each", x.fountainIs(f, 3), 3 * (f + 1));
    FountainTalk y = one(0, 0, 99999);
    int talk = 99999;
    for (int i = 0; i < 30; i++) talk -= talk / 4;
    due("30 DAYS", y.days(30), 30);
    due("30 times less", y.fountainIs(0, 3), talk);
  }

  private static void daysUpToTheLast() {
    Checks.topic("DAY 0 .. 9999");
    FountainTalk x = new FountainTalk();
    for (int i = 0; i < 333; i++) x.days(30);
    due("DAY", x.count(3), 9990);
    due("too many", x.days(10), -1000000003);
    due("too many BY DRAWS", x.loose(10), -1000000003);
    due("z is as it was", x.count(8), 1);
    due("the last", x.days(9), 9999);
    due("one more", x.days(1), -1000000003);
    due("one more BY DRAWS", x.loose(1), -1000000003);
    due("what n is not is asked ahead", x.days(31), -1000000001);
    due("what n is not is asked ahead", x.loose(21), -1000000001);
    due("DAY", x.count(3), 9999);
    x.image();
    due("restore", x.restore(), 9999);
  }

  private static int nextZ(int z) {
    return BigInteger.valueOf(z).multiply(BigInteger.valueOf(1103515245)).add(BigInteger.valueOf(12345)).intValue();
  }

  private static int drawOf(int z) {
    return (int) ((z & 0xffffffffL) / 256);
  }

  private static void drawsWrap() {
    Checks.topic("DRAWS: z * 1103515245 + 12345 (an int), and gives z >>> 8");
    for (int z : new int[] {0, 1, -1, 2, MIN, MAX, MIN + 1, MAX - 1, 1 << 30, -12345, 255, 256, 1103515245}) {
      FountainTalk x = new FountainTalk();
      due("seed", x.seed(z), 1);
      due("loose without FOUNTAINS", x.loose(1), 0);
      due("z after " + z, x.count(8), nextZ(z));
      due("FROST after " + z, x.count(2), drawOf(nextZ(z)) % 10);
      FountainTalk y = new FountainTalk();
      for (int f = 0; f < 7; f++) y.fountain(0, 0);
      y.seed(z);
      int second = nextZ(nextZ(z));
      int third = nextZ(second);
      int from = drawOf(second) % 7;
      due("who hears after " + z, y.loose(1), 1 << from);
      due("in which SIZE after " + z, y.fountainIs(from, 3), 1 + drawOf(third) % 20);
      due("z after three of " + z, y.count(8), third);
      noErrors(y);
    }
  }

  /** A z whose draw of a given place leaves a given rest. */
  private static int seedFor(int place, int by, int rest) {
    for (int z = 0; z < 100000; z++) {
      int drawn = z;
      for (int i = 0; i < place; i++) drawn = nextZ(drawn);
      if (drawOf(drawn) % by == rest) return z;
    }
    throw new IllegalStateException("no such seed");
  }

  private static void drawsAtTheirEnds() {
    Checks.topic("BY DRAWS a DAY: the ends of each draw");
    for (int frost : new int[] {0, 9}) {
      FountainTalk x = one(0, 0);
      x.freeze(5);
      x.seed(seedFor(1, 10, frost));
      x.loose(1);
      due("FROST", x.count(2), frost);
    }
    for (int size : new int[] {1, 20}) {
      FountainTalk x = one(0, 0);
      x.seed(seedFor(3, 20, size - 1));
      due("the one FOUNTAIN hears", x.loose(1), 1);
      due("SIZE", x.fountainIs(0, 3), size);
    }
    for (int many = 1; many <= 8; many++) {
      for (int from : new int[] {0, many - 1}) {
        FountainTalk x = new FountainTalk();
        for (int f = 0; f < many; f++) x.fountain(0, 0);
        x.seed(seedFor(2, many, from));
        due("of " + many + " hears", x.loose(1), 1 << from);
      }
    }
    FountainTalk x = chain(2, 1);
    x.become(0, 10);
    x.seed(seedFor(1, 10, 9));
    int who = x.loose(1);
    FountainTalk y = chain(2, 1);
    y.become(0, 10);
    y.freeze(9);
    int from = x.fountainIs(0, 3) > 0 ? 0 : 1;
    due("it is heard in the FROST that is drawn", who, y.hears(from, x.fountainIs(from, 3)));
  }

  private static void drawsWithoutFountains() {
    Checks.topic("BY DRAWS a DAY: if there are FOUNTAINS, two draws");
    FountainTalk x = new FountainTalk();
    due("nobody hears", x.loose(20), 0);
    int z = 1;
    for (int i = 0; i < 20; i++) z = nextZ(z);
    due("20 draws", x.count(8), z);
    due("DAY", x.count(3), 20);
    FountainTalk y = one(0, 0, 99999);
    due("it hears", y.loose(20), 1);
    for (int i = 0; i < 40; i++) z = nextZ(z);
    due("60 draws", y.count(8), z);
    due("TALK is held, and no less", y.fountainIs(0, 3), 99999);
    due("DAY", y.count(3), 20);
  }

  private static void looseIsManyDays() {
    Checks.topic("20 loose: who hears any of their SAYINGS");
    for (int n : new int[] {1, 2, 19, 20}) {
      FountainTalk x = chain(8, 1);
      FountainTalk y = chain(8, 1);
      x.freeze(3);
      int all = 0;
      for (int i = 0; i < n; i++) all |= x.loose(1);
      due("loose(" + n + ")", y.loose(n), all);
      due("z", y.count(8), x.count(8));
      due("DAY", y.count(3), n);
      for (int f = 0; f < 8; f++) due("TALK", y.fountainIs(f, 3), x.fountainIs(f, 3));
    }
  }
}
