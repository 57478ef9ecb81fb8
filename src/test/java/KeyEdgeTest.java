/** 'Terms' 3: HUSH, REACH, ODDS and FITS. */
public final class KeyEdgeTest extends Edges {
  public static void main(String[] args) {
    hushOfNone();
    hushOfAll();
    hushTheLeast();
    reachOfNone();
    reachOfMany();
    reachJustInTime();
    reachTheLatest();
    oddsInLowestTerms();
    fitsAtItsEnds();
    eachAsksAnew();
    Checks.end();
  }

  /** Straight down in 2, or by way of 1 in 2 as well, but for what the TEXT makes of FROST. */
  private static FountainTalk inFrost(int frost) {
    FountainTalk x = chain(3, 1);
    x.become(0, 20);
    x.pipe(0, 2, 3);
    Checks.text(x, 1, "d+f*(d<3)");
    due("with no FROST", x.heard(0, 1, 2, 0), 2);
    x.freeze(frost);
    return x;
  }

  private static void eachAsksAnew() {
    Checks.topic("HOW SLOW it is now, whatever was asked ahead");
    due("hears", inFrost(9).hears(0, 1), 7);
    due("heard: when", inFrost(9).heard(0, 1, 2, 0), 3);
    due("heard: SIZE", inFrost(9).heard(0, 1, 2, 1), 4);
    FountainTalk x = inFrost(9);
    x.let(0, 1);
    due("let", x.fountainIs(2, 3), 4);
    due("reach by 2", inFrost(9).reach(0, 1, 2, 2, 0), -1000000002);
    due("reach by 3", inFrost(9).reach(0, 1, 2, 3, 0), 0);
    // 4 does not go on there, 5 does
    FountainTalk y = withABasin(9);
    due("hears", y.hears(0, 1), 7);
    due("hush", withABasin(9).hush(0, 1, 3, 0), 0);
    due("hush, with no FROST", withABasin(0).hush(0, 1, 3, 0), 1);
    due("odds, from 2 and 3", withABasin(9).odds(3, 1, 1), 2);
    due("odds, with no FROST from 0 as well", withABasin(0).odds(3, 1, 1), 4);
    FountainTalk z = withABasin(9);
    z.sheet(0, 8, 4);
    int[] sizes = {1, 4, 4, 0};
    for (int f = 0; f < 4; f++) z.put(0, f, sizes[f]);
    due("fits", z.fits(0, 1), 1);
    due("fits, with no FROST", withABasin(0).hears(0, 1), 15);
  }

  private static FountainTalk withABasin(int frost) {
    FountainTalk x = inFrost(0);
    x.become(2, 30);
    x.fountain(0, 0);
    x.pipe(2, 3, 1);
    due("with no FROST it hears 5", x.heard(0, 1, 2, 1), 5);
    x.freeze(frost);
    return x;
  }

  private static void hushOfNone() {
    Checks.topic("HUSH: none is to be shut");
    FountainTalk x = chain(2, 1);
    due("up the hill, how many", x.hush(1, 1, 0, 0), 0);
    due("up the hill, the set", x.hush(1, 99, 0, 1), 0);
    x.turn(0, 0);
    due("all are shut, how many", x.hush(0, 1, 1, 0), 0);
    due("all are shut, the set", x.hush(0, 1, 1, 1), 0);
    FountainTalk y = one(0, 9);
    y.fountain(0, 0);
    due("there are no PIPES, how many", y.hush(0, 1, 1, 0), 0);
    due("there are no PIPES, the set", y.hush(0, 1, 1, 1), 0);
    noErrors(y);
  }

  private static void hushOfAll() {
    Checks.topic("HUSH: all nine are to be shut");
    FountainTalk x = ninePipes();
    due("how many", x.hush(0, 1, 1, 0), 9);
    due("the set", x.hush(0, 99, 1, 1), 511);
    x.turn(4, 0);
    due("eight are OPEN, how many", x.hush(0, 1, 1, 0), 8);
    due("eight are OPEN, the set", x.hush(0, 1, 1, 1), 511 - 16);
    for (int p = 0; p < 8; p++) x.turn(p, 0);
    due("the last is OPEN, how many", x.hush(0, 1, 1, 0), 1);
    due("the last is OPEN, the set", x.hush(0, 1, 1, 1), 256);
    due("only thought", x.count(4), 256);
    due("TALK", x.fountainIs(1, 3), 0);
  }

  private static void hushTheLeast() {
    Checks.topic("HUSH: of several sets the least (bits)");
    FountainTalk x = chain(8, 1);
    for (int at = 1; at < 8; at++) {
      due("any PIPE ahead of it, how many", x.hush(0, 1, at, 0), 1);
      due("the least of them", x.hush(0, 1, at, 1), 1);
      due("from the one above it", x.hush(at - 1, 1, at, 1), 1 << (at - 1));
    }
    // two ways, of PIPES 0, 2 and of PIPES 1, 3
    FountainTalk y = one(0, 9);
    y.fountain(0, 5);
    y.fountain(0, 5);
    y.fountain(0, 0);
    y.pipe(1, 3, 1);
    y.pipe(2, 3, 1);
    y.pipe(0, 1, 1);
    y.pipe(0, 2, 1);
    due("one of each way", y.hush(0, 1, 3, 0), 2);
    due("the least of four", y.hush(0, 1, 3, 1), 3);
    y.turn(0, 0);
    due("one way is shut", y.hush(0, 1, 3, 1), 2);
    // one PIPE of a higher number is fewer than two of lower ones
    FountainTalk z = one(0, 9);
    z.fountain(0, 5);
    z.fountain(0, 0);
    z.pipe(0, 1, 1);
    z.pipe(0, 1, 2);
    z.pipe(1, 2, 1);
    due("fewest", z.hush(0, 1, 2, 0), 1);
    due("PIPE 2", z.hush(0, 1, 2, 1), 4);
    FountainTalk w = one(0, 9);
    w.fountain(0, 5);
    w.fountain(0, 0);
    w.pipe(0, 1, 1);
    w.pipe(0, 1, 2);
    for (int p = 2; p < 8; p++) {
      due("PIPES 0 and 1, how many", w.hush(0, 1, 1, 0), p);
      w.pipe(0, 1, 3);
    }
    w.pipe(1, 2, 1);
    due("fewest", w.hush(0, 1, 2, 0), 1);
    due("PIPE 8", w.hush(0, 1, 2, 1), 256);
    due("and at 1 all eight", w.hush(0, 1, 1, 1), 255);
    FountainTalk v = one(0, 9);
    v.fountain(0, 5);
    v.fountain(0, 0);
    v.fountain(0, 0);
    v.pipe(0, 1, 1);
    v.pipe(0, 1, 1);
    v.pipe(0, 3, 1);
    v.pipe(1, 2, 1);
    due("PIPE 2 is of no use, PIPE 3 is", v.hush(0, 1, 2, 1), 8);
  }

  private static void reachOfNone() {
    Checks.topic("REACH: none is to be OPEN");
    FountainTalk x = chain(2, 5);
    for (int by : new int[] {0, 1, 99}) {
      due("where it starts, how many", x.reach(0, 1, 0, by, 0), 0);
      due("where it starts, the set", x.reach(1, 99, 1, by, 1), 0);
    }
    due("heard just then", x.reach(0, 1, 1, 5, 0), 0);
    due("one sooner", x.reach(0, 1, 1, 4, 0), -1000000002);
    due("one later", x.reach(0, 1, 1, 6, 1), 0);
    FountainTalk y = one(0, 9);
    y.fountain(0, 0);
    due("there are no PIPES", y.reach(0, 1, 1, 99, 0), -1000000002);
    due("there are no PIPES, the set", y.reach(0, 1, 1, 99, 1), -1000000002);
    due("counted", y.told(2), 2);
  }

  private static void reachOfMany() {
    Checks.topic("REACH: fewest, and of several sets the least");
    FountainTalk x = chain(8, 1);
    for (int p = 0; p < 7; p++) x.turn(p, 0);
    for (int at = 1; at < 8; at++) {
      due("how many", x.reach(0, 1, at, 99, 0), at);
      due("the set", x.reach(0, 1, at, at, 1), (1 << at) - 1);
      due("one sooner", x.reach(0, 1, at, at - 1, 1), -1000000002);
    }
    due("only thought", x.count(4), 0);
    FountainTalk y = ninePipes();
    for (int p = 0; p < 9; p++) y.turn(p, 0);
    due("one of nine", y.reach(0, 1, 1, 99, 0), 1);
    due("the least", y.reach(0, 1, 1, 99, 1), 1);
    y.turn(8, 1);
    due("the last is OPEN, and too slow by 8", y.reach(0, 1, 1, 8, 1), 1);
    due("the last is OPEN", y.reach(0, 1, 1, 9, 1), 0);
    // one PIPE of a higher number is fewer than two of lower ones
    FountainTalk w = one(0, 9);
    w.fountain(0, 5);
    w.fountain(0, 0);
    w.fountain(0, 0);
    w.pipe(0, 1, 1);
    w.pipe(1, 2, 1);
    w.pipe(0, 3, 1);
    w.pipe(0, 2, 9);
    for (int p = 0; p < 4; p++) w.turn(p, 0);
    due("by 9: fewest", w.reach(0, 1, 2, 9, 0), 1);
    due("by 9: PIPE 3", w.reach(0, 1, 2, 9, 1), 8);
    due("by 8: fewest", w.reach(0, 1, 2, 8, 0), 2);
    due("by 8: PIPES 0 and 1", w.reach(0, 1, 2, 8, 1), 3);
    due("by 2", w.reach(0, 1, 2, 2, 1), 3);
    due("not by 1", w.reach(0, 1, 2, 1, 1), -1000000002);
    // the ninth PIPE alone
    FountainTalk z = new FountainTalk();
    z.fountain(0, 9);
    z.fountain(0, 5);
    z.fountain(0, 0);
    for (int p = 0; p < 8; p++) z.pipe(0, 1, 1);
    z.pipe(0, 2, 1);
    for (int p = 0; p < 9; p++) z.turn(p, 0);
    due("PIPE 8, how many", z.reach(0, 1, 2, 1, 0), 1);
    due("PIPE 8, the set", z.reach(0, 1, 2, 1, 1), 256);
  }

  private static void reachJustInTime() {
    Checks.topic("REACH: by so late");
    FountainTalk x = ninePipes();
    for (int p = 0; p < 9; p++) x.turn(p, 0);
    x.turn(8, 1);
    for (int p = 0; p < 8; p++) {
      FountainTalk y = ninePipes();
      for (int q = 0; q < 9; q++) if (q != p) y.turn(q, 0);
      due("by " + (p + 1), y.reach(0, 1, 1, p + 1, 1), 0);
      due("by " + p, y.reach(0, 1, 1, p, 1), p == 0 ? -1000000002 : 1);
    }
    due("by 1", x.reach(0, 1, 1, 1, 1), 1);
    due("by 0", x.reach(0, 1, 1, 0, 1), -1000000002);
  }

  private static void reachTheLatest() {
    Checks.topic("REACH: by 99, and HOW SLOW up to 20");
    // 20 each down FOUNTAINS 0 to 4, then 19 by FROST
    FountainTalk x = chain(6, 1);
    Checks.text(x, 1, "20-(d=2)*f");
    due("at 100", x.heard(0, 1, 5, 0), 100);
    due("not by 99", x.reach(0, 1, 5, 99, 0), -1000000002);
    x.pipe(4, 5, 2);
    x.freeze(1);
    due("at 99", x.heard(0, 1, 5, 0), 99);
    due("by 99", x.reach(0, 1, 5, 99, 0), 0);
    due("not by 98", x.reach(0, 1, 5, 98, 0), -1000000002);
    x.turn(5, 0);
    due("by 99, with one to be OPEN", x.reach(0, 1, 5, 99, 1), 32);
  }

  private static void oddsInLowestTerms() {
    Checks.topic("ODDS: a fraction in lowest terms");
    int[][][] dues = {
      {{1, 1}},
      {{1, 2}, {1, 1}},
      {{1, 3}, {2, 3}, {1, 1}},
      {{1, 4}, {1, 2}, {3, 4}, {1, 1}},
      {{1, 5}, {2, 5}, {3, 5}, {4, 5}, {1, 1}},
      {{1, 6}, {1, 3}, {1, 2}, {2, 3}, {5, 6}, {1, 1}},
      {{1, 7}, {2, 7}, {3, 7}, {4, 7}, {5, 7}, {6, 7}, {1, 1}},
      {{1, 8}, {1, 4}, {3, 8}, {1, 2}, {5, 8}, {3, 4}, {7, 8}, {1, 1}}
    };
    for (int many = 1; many <= 8; many++) {
      FountainTalk x = chain(many, 1);
      for (int at = 0; at < many; at++) {
        due("above, at " + at + " of " + many, x.odds(at, 99, 0), dues[many - 1][at][0]);
        due("below, at " + at + " of " + many, x.odds(at, 1, 1), dues[many - 1][at][1]);
      }
      noErrors(x);
    }
  }

  private static void fitsAtItsEnds() {
    Checks.topic("FITS: SAYINGS of SIZE 1 .. 20, from any FOUNTAIN; the least");
    FountainTalk x = new FountainTalk();
    for (int f = 0; f < 8; f++) x.fountain(0, 0);
    x.sheet(0, 8, 0);
    due("no numbers: all", x.fits(0, 0), 160);
    due("the least of all", x.fits(0, 1), 1);
    x.sheet(0, 32, 8);
    due("not heard by any", x.fits(0, 0), 0);
    due("there is none", x.fits(0, 1), -1000000002);
    int[][] rows = {{0, 1, 1}, {0, 20, 20}, {0, 21, -1}, {7, 1, 701}, {7, 20, 720}, {7, 21, -1}, {3, 256, -1}, {3, -1, -1}, {3, 99, -1}};
    for (int[] row : rows) {
      x.put(0, row[0], row[1]);
      due(row[1] + " at " + row[0], x.fits(0, 0), row[2] < 0 ? 0 : 1);
      due("which", x.fits(0, 1), row[2] < 0 ? -1000000002 : row[2]);
      x.put(0, row[0], 0);
    }
    x.sheet(0, 8, 7);
    due("what it does not tell of does not matter", x.fits(0, 0), 20);
    due("from 7", x.fits(0, 1), 701);
    x.sheet(0, 8, 9);
    x.put(0, 7, 5);
    due("of a ninth FOUNTAIN", x.fits(0, 0), 0);
    FountainTalk y = chain(2, 1);
    y.become(0, 60);
    y.sheet(1, 16, 2);
    y.put(1, 0, 20);
    y.put(1, 1, 1);
    due("SIZE 20", y.fits(1, 1), 20);
    y.become(0, 0);
    y.put(1, 1, 21);
    due("what is heard below may be above 20", y.fits(1, 1), 20);
    y.sheet(1, 16, 1);
    due("the least of twenty", y.fits(1, 1), 101);
    due("how many", y.fits(1, 0), 20);
  }
}
