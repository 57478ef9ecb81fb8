/** 'Terms' 1, FOUNTAINS and PIPES: their bounds, what the KINDS ADD and whether they SAY ON, HOW SLOW. */
public final class FountainEdgeTest extends Edges {
  public static void main(String[] args) {
    termsOfFountains();
    termsOfPipes();
    Checks.end();
  }

  // ---- 1: FOUNTAINS

  private static void termsOfFountains() {
    boundsOfAFountain();
    kindsUnderKinds();
    adds();
    addsIsHeldAfterTheText();
    saysOn();
  }

  private static void boundsOfAFountain() {
    Checks.topic("FOUNTAINS (at most 8), m 0 .. 9, HEIGHT 0 .. 9, TALK 0 at first");
    int[] kms = {0, 9, 10, 19, 60, 69, 5, 64};
    int[] heights = {0, 9, 1, 8, 5, 0, 9, 4};
    FountainTalk x = new FountainTalk();
    for (int f = 0; f < 8; f++) {
      due("FOUNTAINS", x.count(0), f);
      due("number", x.fountain(kms[f], heights[f]), f);
    }
    for (int f = 0; f < 8; f++) {
      due("KIND", x.fountainIs(f, 0), kms[f] / 10);
      due("m", x.fountainIs(f, 1), kms[f] % 10);
      due("HEIGHT", x.fountainIs(f, 2), heights[f]);
      due("TALK", x.fountainIs(f, 3), 0);
    }
    due("become of the last, the most", x.become(7, 69), 6);
    due("m", x.fountainIs(7, 1), 9);
    due("become of the first, the least", x.become(0, 0), 0);
    due("become what it is", x.become(0, 0), 0);
    due("FOUNTAINS", x.count(0), 8);
    noErrors(x);
  }

  private static void kindsUnderKinds() {
    Checks.topic("KINDS: 1, 2, 3, 6 under SPOUT, 4 under LION, 5 under DOLPHIN");
    String[] is = {"1000000", "1100000", "1010000", "1001000", "1100100", "1010010", "1000001"};
    FountainTalk x = new FountainTalk();
    for (int kind = 0; kind < 7; kind++) x.fountain(10 * kind + 9 - kind, 0);
    for (int f = 0; f < 7; f++) {
      for (int kind = 0; kind < 7; kind++) {
        due("as(" + f + ", " + kind + ")", x.as(f, kind), is[f].charAt(kind) == '1' ? 9 - f : -1000000005);
      }
    }
  }

  /** KIND and m, HEIGHT, TALK, SIZE, and as what it is said without a TEXT. */
  private static final int[][] ADDS = {
    {0, 0, 0, 1, 2}, {9, 9, 99999, 1, 2}, {0, 0, 0, 97, 98}, {0, 0, 0, 98, 99}, {0, 0, 0, 99, 99},
    {30, 0, 0, 1, 2}, {39, 9, 99999, 98, 99}, {39, 9, 0, 99, 99},
    {10, 9, 99999, 1, 2}, {19, 0, 0, 1, 11}, {19, 0, 0, 88, 98}, {19, 0, 0, 89, 99}, {19, 0, 0, 90, 99}, {10, 0, 0, 99, 99},
    {20, 9, 99999, 1, 4}, {20, 0, 0, 48, 98}, {20, 0, 0, 49, 99}, {21, 0, 0, 49, 99}, {22, 0, 0, 49, 98}, {23, 0, 0, 1, 1},
    {24, 0, 0, 1, 1}, {25, 0, 0, 1, 1}, {29, 0, 0, 1, 1}, {29, 0, 0, 3, 1}, {29, 0, 0, 4, 1}, {29, 0, 0, 5, 3}, {29, 0, 0, 99, 99},
    {40, 0, 99999, 1, 2}, {49, 0, 0, 1, 11}, {40, 9, 0, 1, 11}, {49, 9, 0, 1, 20}, {49, 9, 0, 79, 98}, {49, 9, 0, 80, 99},
    {49, 9, 0, 81, 99}, {40, 0, 0, 99, 99},
    {50, 9, 0, 1, 4}, {50, 0, 4, 1, 8}, {50, 0, 5, 1, 4}, {50, 0, 6, 1, 5}, {50, 0, 99999, 1, 8}, {50, 0, 99995, 1, 4},
    {59, 0, 0, 1, 1}, {59, 0, 4, 1, 1}, {59, 0, 4, 3, 3}, {55, 0, 4, 1, 3}, {50, 0, 4, 46, 98}, {50, 0, 4, 47, 99}, {50, 0, 4, 48, 99},
    {60, 9, 99999, 99, 1}, {61, 0, 0, 1, 2}, {62, 0, 0, 50, 3}, {63, 0, 0, 1, 1}, {68, 0, 0, 1, 3}, {69, 9, 0, 99, 1}
  };

  private static void adds() {
    Checks.topic("ADDS, held within 1 .. 99");
    for (int[] row : ADDS) {
      FountainTalk x = one(row[0], row[1], row[2]);
      due("says of " + row[0] + ", HEIGHT " + row[1] + ", TALK " + row[2] + ", SIZE " + row[3], x.says(0, row[3]), row[4]);
      noErrors(x);
    }
  }

  /** KIND and m, HEIGHT, TALK, SIZE, a TEXT, and as what it is said. */
  private static final Object[][] ADDS_BY_TEXT = {
    {9, 9, 0, 99, "z-50", 50}, {19, 0, 0, 99, "z-50", 59}, {29, 0, 0, 99, "z-150", 41}, {29, 0, 0, 1, "z+9", 4},
    {49, 9, 0, 99, "z-50", 68}, {59, 0, 4, 99, "z-150", 45}, {59, 0, 0, 1, "z+9", 4}, {69, 0, 0, 99, "z*9", 9},
    {39, 0, 0, 99, "z-99", 1}, {39, 0, 0, 99, "z-98", 2}, {0, 0, 0, 1, "z+96", 98}, {0, 0, 0, 1, "z+97", 99},
    {0, 0, 0, 1, "z+98", 99}, {0, 0, 0, 1, "z-1", 1}, {0, 0, 0, 1, "z-2", 1}, {0, 0, 0, 1, "z-3", 1},
    {0, 0, 0, 5, "h", 1}, {0, 9, 0, 5, "h", 9}, {0, 9, 0, 5, "k", 1}, {69, 9, 0, 5, "k", 6}, {0, 0, 0, 5, "9999", 99}
  };

  private static void addsIsHeldAfterTheText() {
    Checks.topic("SAID: NAMES z what the KIND ADDS, h HEIGHT, k KIND; held within 1 .. 99");
    for (Object[] row : ADDS_BY_TEXT) {
      FountainTalk x = one((Integer) row[0], (Integer) row[1], (Integer) row[2]);
      due("text", Checks.text(x, 0, (String) row[4]), 1);
      due("says of " + row[0] + " by " + row[4], x.says(0, (Integer) row[3]), (Integer) row[5]);
    }
  }

  /** KIND and m, FROST, SIZE, and whether it is SAID ON. */
  private static final int[][] SAYS_ON = {
    {0, 9, 1, 1}, {9, 9, 99, 1}, {0, 0, 1, 1}, {20, 9, 1, 1}, {29, 9, 99, 1}, {29, 0, 1, 1},
    {10, 0, 1, 1}, {10, 1, 1, 0}, {10, 1, 2, 1}, {19, 9, 8, 0}, {19, 9, 9, 0}, {19, 9, 10, 1}, {19, 9, 99, 1},
    {30, 0, 1, 1}, {30, 0, 2, 0}, {30, 0, 98, 0}, {30, 9, 99, 1}, {31, 0, 2, 1}, {31, 0, 3, 0}, {31, 0, 99, 0},
    {39, 0, 10, 1}, {39, 0, 11, 0}, {39, 0, 12, 1}, {39, 9, 22, 0}, {39, 9, 98, 1}, {39, 9, 99, 0}, {39, 9, 1, 1},
    {40, 0, 1, 1}, {40, 9, 9, 0}, {40, 9, 10, 1}, {46, 9, 9, 0}, {46, 9, 10, 1}, {47, 9, 9, 1}, {47, 9, 1, 1}, {49, 9, 1, 1},
    {49, 0, 99, 1}, {46, 1, 1, 0}, {47, 1, 1, 1},
    {50, 9, 1, 1}, {50, 0, 59, 1}, {50, 0, 60, 0}, {50, 0, 61, 0}, {50, 0, 99, 0}, {59, 0, 67, 1}, {59, 9, 68, 1}, {59, 0, 69, 0},
    {59, 0, 70, 0}, {51, 0, 60, 1}, {51, 0, 61, 0},
    {60, 0, 1, 1}, {69, 7, 99, 1}, {69, 8, 99, 0}, {60, 8, 1, 0}, {60, 9, 1, 0}, {60, 7, 1, 1}
  };

  private static void saysOn() {
    Checks.topic("SAYS ON");
    for (int[] row : SAYS_ON) {
      FountainTalk x = one(row[0], 9);
      x.fountain(0, 0);
      x.pipe(0, 1, 1);
      x.freeze(row[1]);
      String what = row[0] + " in FROST " + row[1] + ", SIZE " + row[2];
      due("goesOn of " + what, x.goesOn(0, row[2]), row[3]);
      due("hears from " + what, x.hears(0, row[2]), row[3] == 1 ? 3 : 1);
      x.says(0, row[2]);
      noErrors(x);
    }
  }

  // ---- 1: PIPES

  private static void termsOfPipes() {
    boundsOfAPipe();
    lessHeight();
    turnsOfTheLast();
    howSlow();
  }

  private static void boundsOfAPipe() {
    Checks.topic("PIPES (at most 9), DELAY 1 .. 9, OPEN at first");
    FountainTalk x = ninePipes();
    due("PIPES", x.count(1), 9);
    due("OPEN", x.count(4), 511);
    for (int p = 0; p < 9; p++) {
      int[] dues = {0, 1, p + 1, 1, p + 1};
      for (int what = 0; what < 5; what++) due("pipeIs(" + p + ", " + what + ")", x.pipeIs(p, what), dues[what]);
    }
    noErrors(x);
  }

  private static void lessHeight() {
    Checks.topic("STATE: where it goes is no less HEIGHT");
    for (int from = 0; from <= 9; from++) {
      for (int to = 0; to <= 9; to++) {
        FountainTalk x = one(0, from);
        x.fountain(0, to);
        due("pipe from " + from + " to " + to, x.pipe(0, 1, 1), from > to ? 0 : -1000000003);
        due("PIPES", x.count(1), from > to ? 1 : 0);
      }
    }
  }

  private static void turnsOfTheLast() {
    Checks.topic("10 turn, at the ends");
    FountainTalk x = ninePipes();
    due("the last is OPEN, to be shut", x.turn(8, 0), 1);
    due("OPEN ones", x.count(4), 255);
    due("the first is OPEN, to be shut", x.turn(0, 0), 1);
    due("OPEN ones", x.count(4), 254);
    for (int p = 1; p < 8; p++) x.turn(p, 0);
    due("none is OPEN", x.count(4), 0);
    due("nobody hears it over them", x.hears(0, 1), 1);
    due("shut, to be shut", x.turn(8, 0), 0);
    due("none is OPEN", x.count(4), 0);
    due("shut, to be OPEN", x.turn(8, 1), 0);
    due("OPEN ones", x.count(4), 256);
    due("over the last one alone", x.heard(0, 1, 1, 0), 9);
    due("OPEN, to be OPEN", x.turn(8, 1), 1);
    due("OPEN ones", x.count(4), 256);
    noErrors(x);
  }

  /** A TEXT, DELAY, FROST, from what HEIGHT to what, and HOW SLOW. */
  private static final Object[][] SLOW = {
    {"", 1, 9, 9, 0, 1}, {"", 9, 0, 1, 0, 9}, {"d", 9, 9, 9, 0, 9}, {"f", 1, 0, 9, 0, 1}, {"f", 1, 9, 9, 0, 9},
    {"h", 1, 0, 9, 0, 9}, {"h", 9, 9, 9, 8, 1}, {"h", 9, 9, 1, 0, 1}, {"0", 9, 9, 9, 0, 1}, {"1", 9, 9, 9, 0, 1},
    {"2", 9, 9, 9, 0, 2}, {"19", 1, 0, 9, 0, 19}, {"20", 1, 0, 9, 0, 20}, {"21", 1, 0, 9, 0, 20}, {"9999", 1, 0, 9, 0, 20},
    {"0-1", 1, 0, 9, 0, 1}, {"0-9999*9999", 1, 0, 9, 0, 1}, {"d+f+h", 9, 2, 9, 0, 20}, {"d+f+h", 9, 1, 9, 0, 19},
    {"d-f", 9, 8, 9, 0, 1}, {"d-f", 9, 7, 9, 0, 2}, {"d-f", 9, 9, 9, 0, 1}
  };

  private static void howSlow() {
    Checks.topic("SLOW: NAMES d DELAY, f FROST, h by how much less HEIGHT; held within 1 .. 20");
    for (Object[] row : SLOW) {
      FountainTalk x = one(0, (Integer) row[3]);
      x.fountain(0, (Integer) row[4]);
      x.pipe(0, 1, (Integer) row[1]);
      x.freeze((Integer) row[2]);
      if (!((String) row[0]).isEmpty()) due("text", Checks.text(x, 1, (String) row[0]), 1);
      String what = "by '" + row[0] + "' of " + row[1] + ", " + row[2] + ", " + row[3] + " to " + row[4];
      due("HOW SLOW " + what, x.pipeIs(0, 4), (Integer) row[5]);
      due("when " + what, x.heard(0, 1, 1, 0), (Integer) row[5]);
      x.sheet(0, 8, 1);
      x.put(0, 0, (Integer) row[5]);
      due("judge " + what, x.judge(0), 1);
      noErrors(x);
    }
  }
}
