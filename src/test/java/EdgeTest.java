import java.math.BigInteger;

/**
 * Sentence by sentence of 'Terms' and of the promises: what is the last that is taken, what is held, what is
 * empty, what is full, and where an int wraps around. What is refused, and that nothing comes of it, stands
 * in RefusalTest.
 */
public final class EdgeTest {
  private static final int LOW = Checks.LOW;
  private static final int MIN = Integer.MIN_VALUE;
  private static final int MAX = Integer.MAX_VALUE;

  public static void main(String[] args) {
    termsOfErrors();
    termsOfFountains();
    termsOfPipes();
    termsOfHearing();
    termsOfDays();
    termsOfTexts();
    termsOfKeys();
    termsOfVoices();
    termsOfSheets();
    whatIsEmpty();
    whatIsFull();
    imagesAtTheEdge();
    Checks.end();
  }

  private static void due(String what, long got, long want) {
    Checks.due(what, got, want);
  }

  private static void noErrors(FountainTalk x) {
    for (int k = 1; k <= 6; k++) due("no ERROR: told(" + k + ")", x.told(k), 0);
  }

  private static FountainTalk one(int km, int height) {
    FountainTalk x = new FountainTalk();
    due("fountain(" + km + ", " + height + ")", x.fountain(km, height), 0);
    return x;
  }

  private static FountainTalk one(int km, int height, int talk) {
    FountainTalk x = one(km, height);
    talk(x, talk);
    return x;
  }

  private static void talk(FountainTalk x, int... talks) {
    x.sheet(3, 32, talks.length);
    for (int i = 0; i < talks.length; i++) x.put(3, i, talks[i]);
    due("talks", x.talks(3), talks.length);
    x.sheet(3, 0, 0);
  }

  /** SPOUTS of HEIGHT 9 down to 2, each with a PIPE to the next. */
  private static FountainTalk chain(int many, int delay) {
    FountainTalk x = new FountainTalk();
    for (int f = 0; f < many; f++) x.fountain(0, 9 - f);
    for (int f = 1; f < many; f++) x.pipe(f - 1, f, delay);
    return x;
  }

  /** A SPOUT above another, and nine PIPES from the one to the other. */
  private static FountainTalk ninePipes() {
    FountainTalk x = chain(2, 1);
    for (int p = 1; p < 9; p++) due("pipe", x.pipe(0, 1, p + 1), p);
    return x;
  }

  // ---- ERRORS

  private static void termsOfErrors() {
    eachErrorIsItsNumber();
    anyNumberIsNoError();
    the512thCall();
    toldCounts();
  }

  private static void eachErrorIsItsNumber() {
    Checks.topic("LOW is -1000000000; LOW - 1 BEYOND .. LOW - 6 PARTED");
    FountainTalk x = chain(8, 1);
    due("BEYOND", x.count(9), -1000000001);
    due("NONE", x.restore(), -1000000002);
    due("STATE", x.pipe(0, 0, 1), -1000000003);
    due("FULL", x.fountain(0, 0), -1000000004);
    due("KIND", x.as(0, 1), -1000000005);
    due("PARTED", x.voice(0, 3, 0), -1000000006);
    for (int k = 1; k <= 6; k++) due("told(" + k + ")", x.told(k), 1);
  }

  private static void anyNumberIsNoError() {
    Checks.topic("a number that looks like an ERROR is none");
    FountainTalk x = one(5, 0);
    int before = 1;
    for (int k = 0; k <= 7; k++) {
      due("voice", x.voice(0, 0, LOW - k), LOW - k);
      due("its BODY", x.body(0), 10);
      due("seed", x.seed(LOW - k), before);
      due("z", x.count(8), LOW - k);
      before = LOW - k;
    }
    noErrors(x);
  }

  private static void the512thCall() {
    Checks.topic("at most 512 calls");
    FountainTalk x = new FountainTalk();
    for (int i = 0; i < 510; i++) x.told(0);
    due("the 511th call", x.told(7), -1000000001);
    due("the 512th call", x.told(1), 511);
    FountainTalk y = new FountainTalk();
    for (int i = 0; i < 511; i++) y.image();
    due("the 512th image()", y.image(), 512);
    FountainTalk z = new FountainTalk();
    for (int i = 0; i < 510; i++) z.loose(20);
    due("the 511th call: the first 499 are no STATE", z.told(3), 11);
    due("the 512th call", z.count(3), 9980);
  }

  private static void toldCounts() {
    Checks.topic("38 told");
    FountainTalk x = new FountainTalk();
    for (int k : new int[] {0, 7, -1, 8, MIN, MAX}) {
      int before = x.told(1);
      due("told(" + k + ")", x.told(k), -1000000001);
      due("counted, too", x.told(1), before + 1);
    }
    due("the last k", x.told(6), 0);
    due("asking is no ERROR", x.told(1), 6);
  }

  // ---- 1: FOUNTAINS

  private static void termsOfFountains() {
    boundsOfAFountain();
    kindsUnderKinds();
    adds();
    addsIsHeldAfterTheText();
    saysOn();
  }

  private static void boundsOfAFountain() {
    Checks.topic("FOUNTAINS (at most 8), m 0 .. 9, HEIGHT 0 .. 9, TALK 0 at first");
    int[] kms = {0, 9, 10, 19, 60, 69, 5, 64};
    int[] heights = {0, 9, 1, 8, 5, 0, 9, 4};
    FountainTalk x = new FountainTalk();
    for (int f = 0; f < 8; f++) {
      due("FOUNTAINS", x.count(0), f);
      due("number", x.fountain(kms[f], heights[f]), f);
    }
    for (int f = 0; f < 8; f++) {
      due("KIND", x.fountainIs(f, 0), kms[f] / 10);
      due("m", x.fountainIs(f, 1), kms[f] % 10);
      due("HEIGHT", x.fountainIs(f, 2), heights[f]);
      due("TALK", x.fountainIs(f, 3), 0);
    }
    due("become of the last, the most", x.become(7, 69), 6);
    due("m", x.fountainIs(7, 1), 9);
    due("become of the first, the least", x.become(0, 0), 0);
    due("become what it is", x.become(0, 0), 0);
    due("FOUNTAINS", x.count(0), 8);
    noErrors(x);
  }

  private static void kindsUnderKinds() {
    Checks.topic("KINDS: 1, 2, 3, 6 under SPOUT, 4 under LION, 5 under DOLPHIN");
    String[] is = {"1000000", "1100000", "1010000", "1001000", "1100100", "1010010", "1000001"};
    FountainTalk x = new FountainTalk();
    for (int kind = 0; kind < 7; kind++) x.fountain(10 * kind + 9 - kind, 0);
    for (int f = 0; f < 7; f++) {
      for (int kind = 0; kind < 7; kind++) {
        due("as(" + f + ", " + kind + ")", x.as(f, kind), is[f].charAt(kind) == '1' ? 9 - f : -1000000005);
      }
    }
  }

  /** KIND and m, HEIGHT, TALK, SIZE, and as what it is said without a TEXT. */
  private static final int[][] ADDS = {
    {0, 0, 0, 1, 2}, {9, 9, 99999, 1, 2}, {0, 0, 0, 97, 98}, {0, 0, 0, 98, 99}, {0, 0, 0, 99, 99},
    {30, 0, 0, 1, 2}, {39, 9, 99999, 98, 99}, {39, 9, 0, 99, 99},
    {10, 9, 99999, 1, 2}, {19, 0, 0, 1, 11}, {19, 0, 0, 88, 98}, {19, 0, 0, 89, 99}, {19, 0, 0, 90, 99}, {10, 0, 0, 99, 99},
    {20, 9, 99999, 1, 4}, {20, 0, 0, 48, 98}, {20, 0, 0, 49, 99}, {21, 0, 0, 49, 99}, {22, 0, 0, 49, 98}, {23, 0, 0, 1, 1},
    {24, 0, 0, 1, 1}, {25, 0, 0, 1, 1}, {29, 0, 0, 1, 1}, {29, 0, 0, 3, 1}, {29, 0, 0, 4, 1}, {29, 0, 0, 5, 3}, {29, 0, 0, 99, 99},
    {40, 0, 99999, 1, 2}, {49, 0, 0, 1, 11}, {40, 9, 0, 1, 11}, {49, 9, 0, 1, 20}, {49, 9, 0, 79, 98}, {49, 9, 0, 80, 99},
    {49, 9, 0, 81, 99}, {40, 0, 0, 99, 99},
    {50, 9, 0, 1, 4}, {50, 0, 4, 1, 8}, {50, 0, 5, 1, 4}, {50, 0, 6, 1, 5}, {50, 0, 99999, 1, 8}, {50, 0, 99995, 1, 4},
    {59, 0, 0, 1, 1}, {59, 0, 4, 1, 1}, {59, 0, 4, 3, 3}, {55, 0, 4, 1, 3}, {50, 0, 4, 46, 98}, {50, 0, 4, 47, 99}, {50, 0, 4, 48, 99},
    {60, 9, 99999, 99, 1}, {61, 0, 0, 1, 2}, {62, 0, 0, 50, 3}, {63, 0, 0, 1, 1}, {68, 0, 0, 1, 3}, {69, 9, 0, 99, 1}
  };

  private static void adds() {
    Checks.topic("ADDS, held within 1 .. 99");
    for (int[] row : ADDS) {
      FountainTalk x = one(row[0], row[1], row[2]);
      due("says of " + row[0] + ", HEIGHT " + row[1] + ", TALK " + row[2] + ", SIZE " + row[3], x.says(0, row[3]), row[4]);
      noErrors(x);
    }
  }

  /** KIND and m, HEIGHT, TALK, SIZE, a TEXT, and as what it is said. */
  private static final Object[][] ADDS_BY_TEXT = {
    {9, 9, 0, 99, "z-50", 50}, {19, 0, 0, 99, "z-50", 59}, {29, 0, 0, 99, "z-150", 41}, {29, 0, 0, 1, "z+9", 4},
    {49, 9, 0, 99, "z-50", 68}, {59, 0, 4, 99, "z-150", 45}, {59, 0, 0, 1, "z+9", 4}, {69, 0, 0, 99, "z*9", 9},
    {39, 0, 0, 99, "z-99", 1}, {39, 0, 0, 99, "z-98", 2}, {0, 0, 0, 1, "z+96", 98}, {0, 0, 0, 1, "z+97", 99},
    {0, 0, 0, 1, "z+98", 99}, {0, 0, 0, 1, "z-1", 1}, {0, 0, 0, 1, "z-2", 1}, {0, 0, 0, 1, "z-3", 1},
    {0, 0, 0, 5, "h", 1}, {0, 9, 0, 5, "h", 9}, {0, 9, 0, 5, "k", 1}, {69, 9, 0, 5, "k", 6}, {0, 0, 0, 5, "9999", 99}
  };

  private static void addsIsHeldAfterTheText() {
    Checks.topic("SAID: NAMES z what the KIND ADDS, h HEIGHT, k KIND; held within 1 .. 99");
    for (Object[] row : ADDS_BY_TEXT) {
      FountainTalk x = one((Integer) row[0], (Integer) row[1], (Integer) row[2]);
      due("text", Checks.text(x, 0, (String) row[4]), 1);
      due("says of " + row[0] + " by " + row[4], x.says(0, (Integer) row[3]), (Integer) row[5]);
    }
  }

  /** KIND and m, FROST, SIZE, and whether it is SAID ON. */
  private static final int[][] SAYS_ON = {
    {0, 9, 1, 1}, {9, 9, 99, 1}, {0, 0, 1, 1}, {20, 9, 1, 1}, {29, 9, 99, 1}, {29, 0, 1, 1},
    {10, 0, 1, 1}, {10, 1, 1, 0}, {10, 1, 2, 1}, {19, 9, 8, 0}, {19, 9, 9, 0}, {19, 9, 10, 1}, {19, 9, 99, 1},
    {30, 0, 1, 1}, {30, 0, 2, 0}, {30, 0, 98, 0}, {30, 9, 99, 1}, {31, 0, 2, 1}, {31, 0, 3, 0}, {31, 0, 99, 0},
    {39, 0, 10, 1}, {39, 0, 11, 0}, {39, 0, 12, 1}, {39, 9, 22, 0}, {39, 9, 98, 1}, {39, 9, 99, 0}, {39, 9, 1, 1},
    {40, 0, 1, 1}, {40, 9, 9, 0}, {40, 9, 10, 1}, {46, 9, 9, 0}, {46, 9, 10, 1}, {47, 9, 9, 1}, {47, 9, 1, 1}, {49, 9, 1, 1},
    {49, 0, 99, 1}, {46, 1, 1, 0}, {47, 1, 1, 1},
    {50, 9, 1, 1}, {50, 0, 59, 1}, {50, 0, 60, 0}, {50, 0, 61, 0}, {50, 0, 99, 0}, {59, 0, 67, 1}, {59, 9, 68, 1}, {59, 0, 69, 0},
    {59, 0, 70, 0}, {51, 0, 60, 1}, {51, 0, 61, 0},
    {60, 0, 1, 1}, {69, 7, 99, 1}, {69, 8, 99, 0}, {60, 8, 1, 0}, {60, 9, 1, 0}, {60, 7, 1, 1}
  };

  private static void saysOn() {
    Checks.topic("SAYS ON");
    for (int[] row : SAYS_ON) {
      FountainTalk x = one(row[0], 9);
      x.fountain(0, 0);
      x.pipe(0, 1, 1);
      x.freeze(row[1]);
      String what = row[0] + " in FROST " + row[1] + ", SIZE " + row[2];
      due("goesOn of " + what, x.goesOn(0, row[2]), row[3]);
      due("hears from " + what, x.hears(0, row[2]), row[3] == 1 ? 3 : 1);
      x.says(0, row[2]);
      noErrors(x);
    }
  }

  // ---- 1: PIPES

  private static void termsOfPipes() {
    boundsOfAPipe();
    lessHeight();
    turnsOfTheLast();
    howSlow();
  }

  private static void boundsOfAPipe() {
    Checks.topic("PIPES (at most 9), DELAY 1 .. 9, OPEN at first");
    FountainTalk x = ninePipes();
    due("PIPES", x.count(1), 9);
    due("OPEN", x.count(4), 511);
    for (int p = 0; p < 9; p++) {
      int[] dues = {0, 1, p + 1, 1, p + 1};
      for (int what = 0; what < 5; what++) due("pipeIs(" + p + ", " + what + ")", x.pipeIs(p, what), dues[what]);
    }
    noErrors(x);
  }

  private static void lessHeight() {
    Checks.topic("STATE: where it goes is no less HEIGHT");
    for (int from = 0; from <= 9; from++) {
      for (int to = 0; to <= 9; to++) {
        FountainTalk x = one(0, from);
        x.fountain(0, to);
        due("pipe from " + from + " to " + to, x.pipe(0, 1, 1), from > to ? 0 : -1000000003);
        due("PIPES", x.count(1), from > to ? 1 : 0);
      }
    }
  }

  private static void turnsOfTheLast() {
    Checks.topic("10 turn, at the ends");
    FountainTalk x = ninePipes();
    due("the last is OPEN, to be shut", x.turn(8, 0), 1);
    due("OPEN ones", x.count(4), 255);
    due("the first is OPEN, to be shut", x.turn(0, 0), 1);
    due("OPEN ones", x.count(4), 254);
    for (int p = 1; p < 8; p++) x.turn(p, 0);
    due("none is OPEN", x.count(4), 0);
    due("nobody hears it over them", x.hears(0, 1), 1);
    due("shut, to be shut", x.turn(8, 0), 0);
    due("none is OPEN", x.count(4), 0);
    due("shut, to be OPEN", x.turn(8, 1), 0);
    due("OPEN ones", x.count(4), 256);
    due("over the last one alone", x.heard(0, 1, 1, 0), 9);
    due("OPEN, to be OPEN", x.turn(8, 1), 1);
    due("OPEN ones", x.count(4), 256);
    noErrors(x);
  }

  /** A TEXT, DELAY, FROST, from what HEIGHT to what, and HOW SLOW. */
  private static final Object[][] SLOW = {
    {"", 1, 9, 9, 0, 1}, {"", 9, 0, 1, 0, 9}, {"d", 9, 9, 9, 0, 9}, {"f", 1, 0, 9, 0, 1}, {"f", 1, 9, 9, 0, 9},
    {"h", 1, 0, 9, 0, 9}, {"h", 9, 9, 9, 8, 1}, {"h", 9, 9, 1, 0, 1}, {"0", 9, 9, 9, 0, 1}, {"1", 9, 9, 9, 0, 1},
    {"2", 9, 9, 9, 0, 2}, {"19", 1, 0, 9, 0, 19}, {"20", 1, 0, 9, 0, 20}, {"21", 1, 0, 9, 0, 20}, {"9999", 1, 0, 9, 0, 20},
    {"0-1", 1, 0, 9, 0, 1}, {"0-9999*9999", 1, 0, 9, 0, 1}, {"d+f+h", 9, 2, 9, 0, 20}, {"d+f+h", 9, 1, 9, 0, 19},
    {"d-f", 9, 8, 9, 0, 1}, {"d-f", 9, 7, 9, 0, 2}, {"d-f", 9, 9, 9, 0, 1}
  };

  private static void howSlow() {
    Checks.topic("SLOW: NAMES d DELAY, f FROST, h by how much less HEIGHT; held within 1 .. 20");
    for (Object[] row : SLOW) {
      FountainTalk x = one(0, (Integer) row[3]);
      x.fountain(0, (Integer) row[4]);
      x.pipe(0, 1, (Integer) row[1]);
      x.freeze((Integer) row[2]);
      if (!((String) row[0]).isEmpty()) due("text", Checks.text(x, 1, (String) row[0]), 1);
      String what = "by '" + row[0] + "' of " + row[1] + ", " + row[2] + ", " + row[3] + " to " + row[4];
      due("HOW SLOW " + what, x.pipeIs(0, 4), (Integer) row[5]);
      due("when " + what, x.heard(0, 1, 1, 0), (Integer) row[5]);
      x.sheet(0, 8, 1);
      x.put(0, 0, (Integer) row[5]);
      due("judge " + what, x.judge(0), 1);
      noErrors(x);
    }
  }

  // ---- 1: who hears what when

  private static void termsOfHearing() {
    oneThatHearsItself();
    downTheLongestChain();
    numberedFromTheFoot();
    theShortWayIsTheSlowOne();
    asSlowAsMayBe();
    atOnceOverSeveral();
    oneTickEarlier();
    whatIsHeardIsWhatGoesOn();
    talkIsHeld();
    talkIsAsAtTheBegin();
  }

  private static void oneThatHearsItself() {
    Checks.topic("a SAYING's FOUNTAIN hears it at 0 in that SIZE");
    for (int size : new int[] {1, 2, 98, 99}) {
      for (int kind = 0; kind < 7; kind++) {
        FountainTalk x = one(10 * kind + 9, 9);
        x.freeze(9);
        due("hears", x.hears(0, size), 1);
        due("when", x.heard(0, size, 0, 0), 0);
        due("in which SIZE", x.heard(0, size, 0, 1), size);
        due("let", x.let(0, size), 1);
        due("TALK", x.fountainIs(0, 3), size);
        noErrors(x);
      }
    }
  }

  private static void downTheLongestChain() {
    Checks.topic("who hears what when, down eight FOUNTAINS");
    FountainTalk x = chain(8, 1);
    due("hears from the top", x.hears(0, 1), 255);
    due("hears from the last", x.hears(7, 99), 128);
    for (int f = 0; f < 8; f++) {
      due("when at " + f, x.heard(0, 1, f, 0), f);
      due("SIZE at " + f, x.heard(0, 1, f, 1), 1 + f);
      due("SIZE held at " + f, x.heard(0, 95, f, 1), Math.min(99, 95 + f));
      due("hears from " + f, x.hears(f, 50), 256 - (1 << f));
    }
    due("let", x.let(0, 93), 255);
    for (int f = 0; f < 8; f++) due("TALK of " + f, x.fountainIs(f, 3), Math.min(99, 93 + f));
    x.turn(6, 0);
    due("the last PIPE shut", x.hears(0, 1), 127);
    x.turn(0, 0);
    due("the first PIPE shut", x.hears(0, 1), 1);
    noErrors(x);
  }

  private static void numberedFromTheFoot() {
    Checks.topic("who hears what when, FOUNTAIN 7 being the highest");
    FountainTalk x = new FountainTalk();
    for (int f = 0; f < 8; f++) x.fountain(0, 2 + f);
    for (int f = 0; f < 7; f++) x.pipe(f + 1, f, 1 + f);
    int time = 0;
    for (int f = 7; f >= 0; f--) {
      due("when at " + f, x.heard(7, 1, f, 0), time);
      due("SIZE at " + f, x.heard(7, 1, f, 1), 8 - f);
      due("hears from " + f, x.hears(f, 1), (2 << f) - 1);
      time += f;
    }
    // 0 is no end here: what it hears goes on to 1
    FountainTalk y = one(0, 5);
    y.fountain(0, 0);
    y.fountain(0, 9);
    y.pipe(2, 0, 2);
    y.pipe(0, 1, 3);
    due("hears from 2", y.hears(2, 1), 7);
    due("when at 1", y.heard(2, 1, 1, 0), 5);
    y.fountain(0, 4);
    y.pipe(2, 3, 1);
    y.pipe(3, 1, 1);
    due("hears from 2", y.hears(2, 1), 15);
    due("when at 1, over 3", y.heard(2, 1, 1, 0), 2);
    due("when at 0, later", y.heard(2, 1, 0, 0), 2);
    due("hush of both", y.hush(2, 1, 1, 0), 2);
    noErrors(y);
    // 1 would hear it straight from 2, but 0 is earlier
    FountainTalk z = one(0, 5);
    z.fountain(0, 3);
    z.fountain(0, 9);
    z.fountain(0, 0);
    z.pipe(2, 1, 9);
    z.pipe(2, 0, 1);
    z.pipe(0, 1, 1);
    z.pipe(1, 3, 1);
    int[] when = {1, 2, 0, 3};
    for (int f = 0; f < 4; f++) due("when at " + f, z.heard(2, 1, f, 0), when[f]);
  }

  /** Each FOUNTAIN has a slow PIPE straight from the top and a quick one from the next above it. */
  private static void theShortWayIsTheSlowOne() {
    Checks.topic("when it first comes: by the long way, and it is said on from then");
    FountainTalk x = chain(5, 1);
    for (int f = 2; f < 5; f++) x.pipe(0, f, 9);
    for (int f = 0; f < 5; f++) {
      due("when at " + f, x.heard(0, 1, f, 0), f);
      due("SIZE at " + f, x.heard(0, 1, f, 1), 1 + f);
    }
    x.turn(0, 0);
    int[] when = {0, -1000000002, 9, 9, 9};
    int[] size = {1, -1000000002, 2, 2, 2};
    for (int f = 0; f < 5; f++) {
      due("PIPE 0 shut: when at " + f, x.heard(0, 1, f, 0), when[f]);
      due("PIPE 0 shut: SIZE at " + f, x.heard(0, 1, f, 1), size[f]);
    }
    x.turn(0, 1);
    x.turn(2, 0);
    int[] later = {0, 1, 2, 9, 9};
    for (int f = 0; f < 5; f++) due("PIPE 2 shut: when at " + f, x.heard(0, 1, f, 0), later[f]);
  }

  private static void asSlowAsMayBe() {
    Checks.topic("seven PIPES of 20");
    FountainTalk x = chain(8, 9);
    Checks.text(x, 1, "20");
    for (int f = 0; f < 8; f++) due("when at " + f, x.heard(0, 1, f, 0), 20 * f);
    due("hears", x.hears(0, 1), 255);
    noErrors(x);
  }

  /** Three ways to FOUNTAIN 4: over 1 in SIZE 3, over 2 in SIZE 13, over 3 in SIZE 8; PIPES in a given order. */
  private static FountainTalk threeWays(int[] order, int[] delays) {
    FountainTalk x = one(0, 9);
    x.fountain(0, 5);
    x.fountain(19, 5);
    x.fountain(14, 5);
    x.fountain(0, 0);
    for (int way : order) x.pipe(0, way, 1);
    for (int way : order) x.pipe(way, 4, delays[way - 1]);
    return x;
  }

  private static void atOnceOverSeveral() {
    Checks.topic("over several PIPES then: in the greatest SIZE of these");
    int[][] orders = {{1, 2, 3}, {1, 3, 2}, {2, 1, 3}, {2, 3, 1}, {3, 1, 2}, {3, 2, 1}};
    for (int[] order : orders) {
      FountainTalk x = threeWays(order, new int[] {2, 2, 2});
      due("when", x.heard(0, 1, 4, 0), 3);
      due("in which SIZE", x.heard(0, 1, 4, 1), 12);
      FountainTalk y = threeWays(order, new int[] {2, 3, 2});
      due("the greatest comes later", y.heard(0, 1, 4, 1), 7);
      FountainTalk z = threeWays(order, new int[] {2, 3, 3});
      due("the least comes first", z.heard(0, 1, 4, 1), 3);
      FountainTalk w = threeWays(order, new int[] {9, 8, 9});
      due("the greatest comes first", w.heard(0, 1, 4, 1), 12);
      due("and when", w.heard(0, 1, 4, 0), 9);
    }
  }

  /** Straight down in SIZE 2, or by way of a LION in SIZE 12. */
  private static void oneTickEarlier() {
    Checks.topic("when it first comes");
    for (int delay = 1; delay <= 9; delay++) {
      FountainTalk x = one(0, 9);
      x.fountain(19, 5);
      x.fountain(0, 0);
      x.pipe(0, 1, 2);
      x.pipe(1, 2, 3);
      x.pipe(0, 2, delay);
      due("when, straight " + delay, x.heard(0, 1, 2, 0), Math.min(5, delay));
      due("in which SIZE, straight " + delay, x.heard(0, 1, 2, 1), delay < 5 ? 2 : 12);
      x.let(0, 1);
      due("TALK: once", x.fountainIs(2, 3), delay < 5 ? 2 : 12);
    }
  }

  private static void whatIsHeardIsWhatGoesOn() {
    Checks.topic("each that hears it as z, and SAYS it ON as z");
    FountainTalk x = chain(3, 1);
    x.become(1, 10);
    x.freeze(9);
    due("9 is heard by the LION, and not SAID ON", x.hears(0, 8), 3);
    due("10 is heard by the LION, and SAID ON", x.hears(0, 9), 7);
    x.become(1, 50);
    due("59 by the ECHO", x.hears(0, 58), 7);
    due("60 by the ECHO", x.hears(0, 59), 3);
    Checks.text(x, 0, "1");
    due("1 by the TEXT", x.hears(0, 99), 7);
    Checks.text(x, 0, "99");
    due("99 by the TEXT", x.hears(0, 1), 3);
  }

  private static void talkIsHeld() {
    Checks.topic("TALK is more by the SIZE (held at 99999)");
    int[][] rows = {
      {0, 1, 1}, {0, 99, 99}, {99998, 1, 99999}, {99999, 1, 99999}, {99900, 99, 99999}, {99901, 99, 99999},
      {99899, 99, 99998}, {99999, 99, 99999}, {99901, 98, 99999}, {99901, 97, 99998}
    };
    for (int[] row : rows) {
      FountainTalk x = one(0, 0, row[0]);
      due("let", x.let(0, row[1]), 1);
      due("TALK " + row[0] + " and " + row[1], x.fountainIs(0, 3), row[2]);
      noErrors(x);
    }
    FountainTalk x = chain(2, 1);
    talk(x, 99998, 99998);
    x.let(0, 1);
    due("TALK, not held", x.fountainIs(0, 3), 99999);
    due("TALK, held", x.fountainIs(1, 3), 99999);
    x.turn(0, 0);
    talk(x, 7, 8);
    x.let(0, 9);
    due("TALK of the one that hears", x.fountainIs(0, 3), 16);
    due("TALK of the one that does not", x.fountainIs(1, 3), 8);
  }

  private static void talkIsAsAtTheBegin() {
    Checks.topic("TALK and FROST are as at the begin, all the while");
    FountainTalk x = chain(3, 1);
    x.become(0, 50);
    x.become(1, 50);
    talk(x, 4, 4, 0);
    due("let", x.let(0, 1), 7);
    due("TALK of 0", x.fountainIs(0, 3), 5);
    due("TALK of 1: 2 * 2 + 4", x.fountainIs(1, 3), 4 + 8);
    due("TALK of 2: 2 * 9 + 4", x.fountainIs(2, 3), 22);
    due("then with 5 and 12", x.heard(0, 1, 2, 1), 2 * (4 + 1) + 2);
  }

  // ---- 1: DAYS

  private static void termsOfDays() {
    lessByAFourth();
    daysUpToTheLast();
    drawsWrap();
    drawsAtTheirEnds();
    drawsWithoutFountains();
    looseIsManyDays();
  }

  private static void lessByAFourth() {
    Checks.topic("of each FOUNTAIN TALK is less by a fourth of it (cut)");
    int[][] rows = {{0, 0}, {1, 1}, {2, 2}, {3, 3}, {4, 3}, {5, 4}, {7, 6}, {8, 6}, {99999, 75000}, {99996, 74997}};
    for (int[] row : rows) {
      FountainTalk x = one(0, 0, row[0]);
      due("DAY", x.days(1), 1);
      due("TALK of " + row[0], x.fountainIs(0, 3), row[1]);
    }
    FountainTalk x = chain(8, 1);
    talk(x, 4, 8, 12, 16, 20, 24, 28, 32);
    x.days(1);
    for (int f = 0; f < 8; f++) due("TALK of each", x.fountainIs(f, 3), 3 * (f + 1));
    FountainTalk y = one(0, 0, 99999);
    int talk = 99999;
    for (int i = 0; i < 30; i++) talk -= talk / 4;
    due("30 DAYS", y.days(30), 30);
    due("30 times less", y.fountainIs(0, 3), talk);
  }

  private static void daysUpToTheLast() {
    Checks.topic("DAY 0 .. 9999");
    FountainTalk x = new FountainTalk();
    for (int i = 0; i < 333; i++) x.days(30);
    due("DAY", x.count(3), 9990);
    due("too many", x.days(10), -1000000003);
    due("too many BY DRAWS", x.loose(10), -1000000003);
    due("z is as it was", x.count(8), 1);
    due("the last", x.days(9), 9999);
    due("one more", x.days(1), -1000000003);
    due("one more BY DRAWS", x.loose(1), -1000000003);
    due("what n is not is asked ahead", x.days(31), -1000000001);
    due("what n is not is asked ahead", x.loose(21), -1000000001);
    due("DAY", x.count(3), 9999);
    x.image();
    due("restore", x.restore(), 9999);
  }

  private static int nextZ(int z) {
    return BigInteger.valueOf(z).multiply(BigInteger.valueOf(1103515245)).add(BigInteger.valueOf(12345)).intValue();
  }

  private static int drawOf(int z) {
    return (int) ((z & 0xffffffffL) / 256);
  }

  private static void drawsWrap() {
    Checks.topic("DRAWS: z * 1103515245 + 12345 (an int), and gives z >>> 8");
    for (int z : new int[] {0, 1, -1, 2, MIN, MAX, MIN + 1, MAX - 1, 1 << 30, -12345, 255, 256, 1103515245}) {
      FountainTalk x = new FountainTalk();
      due("seed", x.seed(z), 1);
      due("loose without FOUNTAINS", x.loose(1), 0);
      due("z after " + z, x.count(8), nextZ(z));
      due("FROST after " + z, x.count(2), drawOf(nextZ(z)) % 10);
      FountainTalk y = new FountainTalk();
      for (int f = 0; f < 7; f++) y.fountain(0, 0);
      y.seed(z);
      int second = nextZ(nextZ(z));
      int third = nextZ(second);
      int from = drawOf(second) % 7;
      due("who hears after " + z, y.loose(1), 1 << from);
      due("in which SIZE after " + z, y.fountainIs(from, 3), 1 + drawOf(third) % 20);
      due("z after three of " + z, y.count(8), third);
      noErrors(y);
    }
  }

  /** A z whose draw of a given place leaves a given rest. */
  private static int seedFor(int place, int by, int rest) {
    for (int z = 0; z < 100000; z++) {
      int drawn = z;
      for (int i = 0; i < place; i++) drawn = nextZ(drawn);
      if (drawOf(drawn) % by == rest) return z;
    }
    throw new IllegalStateException("no such seed");
  }

  private static void drawsAtTheirEnds() {
    Checks.topic("BY DRAWS a DAY: the ends of each draw");
    for (int frost : new int[] {0, 9}) {
      FountainTalk x = one(0, 0);
      x.freeze(5);
      x.seed(seedFor(1, 10, frost));
      x.loose(1);
      due("FROST", x.count(2), frost);
    }
    for (int size : new int[] {1, 20}) {
      FountainTalk x = one(0, 0);
      x.seed(seedFor(3, 20, size - 1));
      due("the one FOUNTAIN hears", x.loose(1), 1);
      due("SIZE", x.fountainIs(0, 3), size);
    }
    for (int many = 1; many <= 8; many++) {
      for (int from : new int[] {0, many - 1}) {
        FountainTalk x = new FountainTalk();
        for (int f = 0; f < many; f++) x.fountain(0, 0);
        x.seed(seedFor(2, many, from));
        due("of " + many + " hears", x.loose(1), 1 << from);
      }
    }
    FountainTalk x = chain(2, 1);
    x.become(0, 10);
    x.seed(seedFor(1, 10, 9));
    int who = x.loose(1);
    FountainTalk y = chain(2, 1);
    y.become(0, 10);
    y.freeze(9);
    int from = x.fountainIs(0, 3) > 0 ? 0 : 1;
    due("it is heard in the FROST that is drawn", who, y.hears(from, x.fountainIs(from, 3)));
  }

  private static void drawsWithoutFountains() {
    Checks.topic("BY DRAWS a DAY: if there are FOUNTAINS, two draws");
    FountainTalk x = new FountainTalk();
    due("nobody hears", x.loose(20), 0);
    int z = 1;
    for (int i = 0; i < 20; i++) z = nextZ(z);
    due("20 draws", x.count(8), z);
    due("DAY", x.count(3), 20);
    FountainTalk y = one(0, 0, 99999);
    due("it hears", y.loose(20), 1);
    for (int i = 0; i < 40; i++) z = nextZ(z);
    due("60 draws", y.count(8), z);
    due("TALK is held, and no less", y.fountainIs(0, 3), 99999);
    due("DAY", y.count(3), 20);
  }

  private static void looseIsManyDays() {
    Checks.topic("20 loose: who hears any of their SAYINGS");
    for (int n : new int[] {1, 2, 19, 20}) {
      FountainTalk x = chain(8, 1);
      FountainTalk y = chain(8, 1);
      x.freeze(3);
      int all = 0;
      for (int i = 0; i < n; i++) all |= x.loose(1);
      due("loose(" + n + ")", y.loose(n), all);
      due("z", y.count(8), x.count(8));
      due("DAY", y.count(3), n);
      for (int f = 0; f < 8; f++) due("TALK", y.fountainIs(f, 3), x.fountainIs(f, 3));
    }
  }

  // ---- 2: TEXTS

  private static void termsOfTexts() {
    bytesOfAWord();
    tapeUpToSixty();
    numbersOfOneToFourDigits();
    longRows();
    whatBindsWhat();
    openOnes();
    everyByteAlone();
    everyByteBehind();
    namesOfEachUse();
    intsThatWrap();
    cutAndRest();
    trueAndFalse();
    heldLaws();
    aFaultLeavesTheOneAhead();
  }

  private static void bytesOfAWord() {
    Checks.topic("12 feed: the n lowest bytes (1 .. 8), the lowest first");
    String eight = "12+34*56";
    for (int n = 1; n <= 8; n++) {
      FountainTalk x = new FountainTalk();
      due("feed", x.feed(Checks.word(eight), n), n);
      due("bytes of THE TAPE", x.count(5), n);
      String told = eight.substring(0, n);
      boolean whole = Character.isDigit(told.charAt(n - 1));
      due("text of " + told, x.text(0), whole ? 1 : -10 - n);
    }
    FountainTalk x = new FountainTalk();
    due("eight above 127", x.feed(-1L, 8), 8);
    due("a byte of 255", x.text(0), -10);
    x.feed(0x80L << 56 | 0x7a7a7a7a7a7a7aL, 8);
    due("a byte of 128 behind z", x.text(0), -11);
    x.feed(0x807aL, 2);
    due("a byte of 128", x.text(0), -11);
    x.feed(0x1007aL, 2);
    due("a byte of 0", x.text(0), -11);
    x.feed(Long.MIN_VALUE | 'z', 1);
    due("bytes above do not matter", x.text(0), 1);
  }

  private static void tapeUpToSixty() {
    Checks.topic("THE TAPE (bytes, at most 60)");
    for (int n = 1; n <= 8; n++) {
      FountainTalk x = new FountainTalk();
      int bytes = 0;
      while (bytes + n <= 60) {
        bytes += n;
        due("feed", x.feed(0x2b312b312b312b31L, n), bytes);
      }
      if (bytes > 60 - n && bytes < 60) due("one too many", x.feed(0, n), -1000000004);
      due("bytes", x.count(5), bytes);
    }
    FountainTalk x = new FountainTalk();
    due("no bytes", x.text(0), -10);
    due("no bytes", x.text(1), -10);
    due("sixty", Checks.text(x, 0, "z+".repeat(29) + "z2"), -10 - 59);
    due("sixty that end too early", Checks.text(x, 0, "z+".repeat(30)), -10 - 60);
    due("sixty", Checks.text(x, 0, "z+".repeat(29) + "!z"), 1);
    due("law", x.law(0, 3, 0, 0), 29 * 3);
    due("fifty-nine", Checks.text(x, 0, "z+".repeat(29) + "z"), 1);
    due("law", x.law(0, 3, 0, 0), 30 * 3);
    due("told of it", x.told(1) + x.told(4), 0);
  }

  private static void numbersOfOneToFourDigits() {
    Checks.topic("a NUMBER of 1 to 4 digits");
    FountainTalk x = new FountainTalk();
    String[] right = {"0", "9", "00", "99", "000", "0000", "0009", "9999", "1000"};
    for (String text : right) {
      due("text of " + text, Checks.text(x, 0, text), 1);
      due("law of " + text, x.law(0, 50, 0, 0), Math.max(1, Math.min(99, Integer.parseInt(text))));
      due("text of z=" + text, Checks.text(x, 0, "(z=" + text + ")*7"), 1);
      due("law of it", x.law(0, Integer.parseInt(text), 0, 0), 7);
      due("law of another", x.law(0, Integer.parseInt(text) + 1, 0, 0), 1);
    }
    String[] wrong = {"00000", "12345", "99999", "00001", "123456"};
    for (String text : wrong) {
      due("text of " + text, Checks.text(x, 0, text), -14);
      due("text of z*" + text, Checks.text(x, 0, "z*" + text), -16);
      due("text of (" + text, Checks.text(x, 0, "(" + text), -15);
      due("text of !" + text, Checks.text(x, 0, "!" + text), -15);
    }
  }

  private static void longRows() {
    Checks.topic("rows of as many as THE TAPE has");
    FountainTalk x = new FountainTalk();
    for (String sign : new String[] {"|", "&", "+", "-", "*", "/", "%"}) {
      due("a row by " + sign, Checks.text(x, 0, ("z" + sign).repeat(29) + "z"), 1);
      due("one that ends too early", Checks.text(x, 0, ("z" + sign).repeat(30)), -70);
      due("two signs", Checks.text(x, 0, "z" + sign + sign + "z"), -12);
    }
    for (String sign : new String[] {"<", "=", ">"}) {
      due("one " + sign, Checks.text(x, 0, "z" + sign + "z"), 1);
      for (String other : new String[] {"<", "=", ">"}) {
        due("another one behind " + sign, Checks.text(x, 0, "z" + sign + "z" + other + "z"), -13);
        due("in ( )", Checks.text(x, 0, "(z" + sign + "z)" + other + "z"), 1);
        due("behind &", Checks.text(x, 0, "z" + sign + "z&z" + other + "z"), 1);
        due("behind |", Checks.text(x, 0, "z" + sign + "z|z" + other + "z"), 1);
        due("behind +", Checks.text(x, 0, "z" + sign + "z+z" + other + "z"), -15);
        due("in ! ( )", Checks.text(x, 0, "z" + sign + "!(z" + other + "z)"), 1);
      }
    }
  }

  private static final String[] LEVELS = {"|", "&", "<=>", "+-", "*/%"};

  private static int level(char sign) {
    for (int level = 0; level < LEVELS.length; level++) if (LEVELS[level].indexOf(sign) >= 0) return level;
    throw new IllegalArgumentException("no sign: " + sign);
  }

  /** Two signs in a row are as with ( ) about the one that binds more, or about the first one. */
  private static void whatBindsWhat() {
    Checks.topic("T: A { | A }, A: B { & B }, B: S < S .., S: P { + P, - P }, P: Q { * Q, / Q, % Q }");
    String signs = "|&<=>+-*/%";
    int[][] numbers = {{7, 3, 2}, {2, 3, 7}, {1, 0, 0}, {0, 0, 1}, {-7, 2, 3}, {0, 5, 0}, {1, 1, 1}, {9, 4, -2}, {5, 0, 3}, {2, 1, 0}};
    for (int i = 0; i < signs.length(); i++) {
      for (int j = 0; j < signs.length(); j++) {
        char a = signs.charAt(i);
        char b = signs.charAt(j);
        if (level(a) == 2 && level(b) == 2) continue;
        boolean first = level(a) >= level(b);
        FountainTalk x = new FountainTalk();
        FountainTalk y = new FountainTalk();
        due("text", Checks.text(x, 0, "(z" + a + "h" + b + "k)+20"), 1);
        due("text", Checks.text(y, 0, first ? "((z" + a + "h)" + b + "k)+20" : "(z" + a + "(h" + b + "k))+20"), 1);
        for (int[] n : numbers) {
          String what = "z" + a + "h" + b + "k of " + n[0] + ", " + n[1] + ", " + n[2];
          due(what, x.law(0, n[0], n[1], n[2]), y.law(0, n[0], n[1], n[2]));
          due(what + ", worked out", x.law(0, n[0], n[1], n[2]), workedOut(a, b, n));
        }
      }
    }
  }

  private static int workedOut(char a, char b, int[] n) {
    int v = level(a) >= level(b)
        ? Model.joined(b, Model.joined(a, n[0], n[1]), n[2])
        : Model.joined(a, n[0], Model.joined(b, n[1], n[2]));
    return Math.max(1, Math.min(99, v + 20));
  }

  private static void openOnes() {
    Checks.topic("at most 5 of ! and ( are open at once");
    FountainTalk x = new FountainTalk();
    // of each row of five, the next one is at the place 5; and closed it is a TEXT
    for (int form = 0; form < 32; form++) {
      StringBuilder row = new StringBuilder();
      StringBuilder close = new StringBuilder();
      for (int i = 0; i < 5; i++) {
        boolean no = (form >> i & 1) != 0;
        row.append(no ? '!' : '(');
        if (!no) close.append(')');
      }
      String closed = row + "z" + close;
      due("text of " + closed, Checks.text(x, 0, closed), 1);
      due("text of " + row + "!z", Checks.text(x, 0, row + "!z"), -15);
      due("text of " + row + "(z)", Checks.text(x, 0, row + "(z)"), -15);
      due("once more behind it", Checks.text(x, 0, closed + "*" + closed), 1);
      due("ends too early: " + row, Checks.text(x, 0, row.toString()), -15);
      due("ends too early: " + row + "z", Checks.text(x, 0, row + "z"), close.length() == 0 ? 1 : -16);
      if (form == 31) due("a ) too many", Checks.text(x, 0, closed + ")"), -10 - closed.length());
    }
    due("a ! stays open over its ( )", Checks.text(x, 0, "!(!(!(z"), -15);
    due("a ! is closed by its ( )", Checks.text(x, 0, "!(!(z)+!(z))"), 1);
    due("five, one closed, one more", Checks.text(x, 0, "((((!z+(z)))))"), 1);
    due("five, one closed, two more", Checks.text(x, 0, "((((!z+(!z)))))"), -18);
  }

  /** Each of the 256 bytes alone: only a digit and a NAME are a TEXT, and ! and ( could go on. */
  private static void everyByteAlone() {
    Checks.topic("each byte, alone");
    for (int use = 0; use <= 1; use++) {
      String names = use == 0 ? "zhk" : "dfh";
      for (int from = 0; from < 256; from += 128) {
        FountainTalk x = new FountainTalk();
        for (int b = from; b < from + 128; b++) {
          boolean isPart = b >= '0' && b <= '9' || names.indexOf(b) >= 0;
          boolean goesOn = b == '!' || b == '(';
          x.feed(b, 1);
          due("byte " + b + " of USE " + use, x.text(use), isPart ? 1 : goesOn ? -11 : -10);
        }
      }
    }
  }

  private static void everyByteBehind() {
    Checks.topic("each byte, behind a NAME and behind a NUMBER");
    for (int use = 0; use <= 1; use++) {
      int name = use == 0 ? 'k' : 'f';
      for (int from = 0; from < 256; from += 64) {
        FountainTalk x = new FountainTalk();
        for (int b = from; b < from + 64; b++) {
          boolean isSign = b > 0 && "|&<=>+-*/%".indexOf(b) >= 0;
          boolean isDigit = b >= '0' && b <= '9';
          x.feed(name | b << 8, 2);
          due("byte " + b + " behind a NAME", x.text(use), isSign ? -12 : -11);
          x.feed('7' | b << 8, 2);
          due("byte " + b + " behind a NUMBER", x.text(use), isSign ? -12 : isDigit ? 1 : -11);
          x.feed('(' | name << 8 | (long) b << 16 | (long) ')' << 24, 4);
          due("byte " + b + " in ( )", x.text(use), isSign ? -13 : b == ')' ? -13 : -12);
        }
      }
    }
  }

  private static void namesOfEachUse() {
    Checks.topic("NAMES of each USE");
    FountainTalk x = new FountainTalk();
    String[] names = {"zhk", "dfh"};
    for (int use = 0; use <= 1; use++) {
      for (int i = 0; i < 3; i++) {
        due("text", Checks.text(x, use, names[use].substring(i, i + 1)), 1);
        due("law", x.law(use, 3, 5, 7), 3 + 2 * i);
      }
      for (char other : new char[] {'z', 'k', 'd', 'f', 'Z', 'H', 'K', 'D', 'F'}) {
        if (names[use].indexOf(other) < 0) due("no NAME: " + other, Checks.text(x, use, "1+" + other), -12);
      }
    }
  }

  /** A TEXT of z, h, k, the three numbers, and what it gives (within 1 .. 99). */
  private static final Object[][] WRAPS = {
    {"z+h", MAX, MIN + 43, 0, 42}, {"z+h", MAX, MAX, 0, 1}, {"z+h+k", MAX, MAX, 9, 7}, {"z-h", MIN, MAX - 10, 0, 11},
    {"z-h", 0, MIN, 0, 1}, {"z-h-1", 0, MIN, 0, 99}, {"0-z", MIN, 0, 0, 1}, {"0-z=z", MIN, 0, 0, 1},
    {"(0-z=z)*5", MIN, 0, 0, 5}, {"z*h", 65537, 65537, 0, 99}, {"z*h", 65536, 65536, 0, 1}, {"z*h+5", 65536, 65536, 0, 5},
    {"z*h+5", MIN, 2, 0, 5}, {"z*h", MAX, MAX, 0, 1}, {"z*h+5", MAX, MAX, 0, 6}, {"z*h+5", MAX, -1, 0, 1},
    {"z*h+k", MAX, -1, MIN + 20, 21}, {"z*h-k", MAX, -1, MAX - 19, 21}, {"z*h-k+50", MAX, -1, MAX, 52},
    {"z/h=z", MIN, -1, 0, 1}, {"(z/h=z)*9", MIN, -1, 0, 9}, {"z/h", MIN, -1, 0, 1}, {"z%h+5", MIN, -1, 0, 5},
    {"(z*h=1)*9", MAX, MAX, 0, 9}
  };

  private static void intsThatWrap() {
    Checks.topic("ints that wrap");
    for (Object[] row : WRAPS) {
      FountainTalk x = new FountainTalk();
      due("text of " + row[0], Checks.text(x, 0, (String) row[0]), 1);
      due(row[0] + " of " + row[1] + ", " + row[2] + ", " + row[3],
          x.law(0, (Integer) row[1], (Integer) row[2], (Integer) row[3]), (Integer) row[4]);
    }
    FountainTalk x = new FountainTalk();
    Checks.text(x, 0, "(9999*9999*9999*9999=z)*9");
    due("9999 four times", x.law(0, 9999 * 9999 * 9999 * 9999, 0, 0), 9);
  }

  /** a, b, a / b and a % b. */
  private static final int[][] QUOTIENTS = {
    {7, 2, 3, 1}, {-7, 2, -3, -1}, {7, -2, -3, 1}, {-7, -2, 3, -1}, {6, 3, 2, 0}, {-6, 3, -2, 0}, {1, 2, 0, 1}, {-1, 2, 0, -1},
    {0, 5, 0, 0}, {5, 0, 0, 0}, {-5, 0, 0, 0}, {0, 0, 0, 0}, {MIN, 0, 0, 0}, {MAX, 0, 0, 0}, {MIN, -1, MIN, 0}, {MAX, -1, -MAX, 0},
    {MIN, 1, MIN, 0}, {MIN, MIN, 1, 0}, {MAX, MIN, 0, MAX}, {MIN, MAX, -1, -1}, {MIN, 2, -1073741824, 0}
  };

  private static void cutAndRest() {
    Checks.topic("/ cut, % the rest that it leaves, both by 0 are 0");
    for (int[] row : QUOTIENTS) {
      FountainTalk x = new FountainTalk();
      Checks.text(x, 0, "(z/h=k)*9");
      due(row[0] + " / " + row[1], x.law(0, row[0], row[1], row[2]), 9);
      Checks.text(x, 0, "(z%h=k)*9");
      due(row[0] + " % " + row[1], x.law(0, row[0], row[1], row[3]), 9);
    }
  }

  private static void trueAndFalse() {
    Checks.topic("| & < = > ! are 1 or 0, what is not 0 being true");
    int[] values = {MIN, -2, -1, 0, 1, 2, MAX};
    String[] texts = {"z|h", "z&h", "z<h", "z=h", "z>h", "!z"};
    for (String text : texts) {
      for (int a : values) {
        FountainTalk x = new FountainTalk();
        Checks.text(x, 0, "(" + text + ")+5");
        for (int b : values) {
          boolean is;
          switch (text) {
            case "z|h": is = a != 0 || b != 0; break;
            case "z&h": is = a != 0 && b != 0; break;
            case "z<h": is = a < b; break;
            case "z=h": is = a == b; break;
            case "z>h": is = a > b; break;
            default: is = a == 0;
          }
          due(text + " of " + a + ", " + b, x.law(0, a, b, 0), is ? 6 : 5);
        }
      }
    }
  }

  private static void heldLaws() {
    Checks.topic("held within 1 .. 99, 1 .. 20; without a TEXT z, d (held likewise)");
    for (int use = 0; use <= 1; use++) {
      int most = use == 0 ? 99 : 20;
      FountainTalk without = new FountainTalk();
      FountainTalk with = new FountainTalk();
      Checks.text(with, use, use == 0 ? "h" : "f");
      for (int v : new int[] {MIN, -1, 0, 1, 2, most - 1, most, most + 1, 1000, MAX}) {
        int held = v < 1 ? 1 : v > most ? most : v;
        due("without a TEXT, " + v, without.law(use, v, MAX, MIN), held);
        due("by the TEXT, " + v, with.law(use, MIN, v, MAX), held);
      }
      noErrors(with);
      due("untell", with.untell(use), 1);
      due("without it", with.law(use, 7, 9, 9), 7);
      due("untell, there is none", with.untell(use), 0);
    }
  }

  private static void aFaultLeavesTheOneAhead() {
    Checks.topic("13 text: -10 less the FAULT, the one ahead stays");
    for (int use = 0; use <= 1; use++) {
      FountainTalk x = new FountainTalk();
      due("a FAULT with none ahead", Checks.text(x, use, "1+"), -12);
      due("there is none", x.untell(use), 0);
      due("text", Checks.text(x, use, "h+2"), 1);
      String longer = "1+2*3<4&(5|6)!";
      due("a FAULT behind a longer one", Checks.text(x, use, longer), -10 - 13);
      due("THE TAPE is empty", x.count(5), 0);
      due("the one ahead", x.law(use, 9, use == 0 ? 3 : 9, use == 0 ? 9 : 3), 5);
      due("no bytes at all", x.text(use), -10);
      due("the one ahead", x.law(use, 9, use == 0 ? 4 : 9, use == 0 ? 9 : 4), 6);
      due("there is one", x.untell(use), 1);
      due("a FAULT when there is none any more", Checks.text(x, use, "h)"), -11);
      due("there is none", x.untell(use), 0);
      noErrors(x);
    }
  }

  // ---- 3: keys, first sayings

  private static void termsOfKeys() {
    hushOfNone();
    hushOfAll();
    hushTheLeast();
    reachOfNone();
    reachOfMany();
    reachJustInTime();
    reachTheLatest();
    oddsInLowestTerms();
    fitsAtItsEnds();
    eachAsksAnew();
  }

  /** Straight down in 2, or by way of 1 in 2 as well, but for what the TEXT makes of FROST. */
  private static FountainTalk inFrost(int frost) {
    FountainTalk x = chain(3, 1);
    x.become(0, 20);
    x.pipe(0, 2, 3);
    Checks.text(x, 1, "d+f*(d<3)");
    due("with no FROST", x.heard(0, 1, 2, 0), 2);
    x.freeze(frost);
    return x;
  }

  private static void eachAsksAnew() {
    Checks.topic("HOW SLOW it is now, whatever was asked ahead");
    due("hears", inFrost(9).hears(0, 1), 7);
    due("heard: when", inFrost(9).heard(0, 1, 2, 0), 3);
    due("heard: SIZE", inFrost(9).heard(0, 1, 2, 1), 4);
    FountainTalk x = inFrost(9);
    x.let(0, 1);
    due("let", x.fountainIs(2, 3), 4);
    due("reach by 2", inFrost(9).reach(0, 1, 2, 2, 0), -1000000002);
    due("reach by 3", inFrost(9).reach(0, 1, 2, 3, 0), 0);
    // 4 does not go on there, 5 does
    FountainTalk y = withABasin(9);
    due("hears", y.hears(0, 1), 7);
    due("hush", withABasin(9).hush(0, 1, 3, 0), 0);
    due("hush, with no FROST", withABasin(0).hush(0, 1, 3, 0), 1);
    due("odds, from 2 and 3", withABasin(9).odds(3, 1, 1), 2);
    due("odds, with no FROST from 0 as well", withABasin(0).odds(3, 1, 1), 4);
    FountainTalk z = withABasin(9);
    z.sheet(0, 8, 4);
    int[] sizes = {1, 4, 4, 0};
    for (int f = 0; f < 4; f++) z.put(0, f, sizes[f]);
    due("fits", z.fits(0, 1), 1);
    due("fits, with no FROST", withABasin(0).hears(0, 1), 15);
  }

  private static FountainTalk withABasin(int frost) {
    FountainTalk x = inFrost(0);
    x.become(2, 30);
    x.fountain(0, 0);
    x.pipe(2, 3, 1);
    due("with no FROST it hears 5", x.heard(0, 1, 2, 1), 5);
    x.freeze(frost);
    return x;
  }

  private static void hushOfNone() {
    Checks.topic("HUSH: none is to be shut");
    FountainTalk x = chain(2, 1);
    due("up the hill, how many", x.hush(1, 1, 0, 0), 0);
    due("up the hill, the set", x.hush(1, 99, 0, 1), 0);
    x.turn(0, 0);
    due("all are shut, how many", x.hush(0, 1, 1, 0), 0);
    due("all are shut, the set", x.hush(0, 1, 1, 1), 0);
    FountainTalk y = one(0, 9);
    y.fountain(0, 0);
    due("there are no PIPES, how many", y.hush(0, 1, 1, 0), 0);
    due("there are no PIPES, the set", y.hush(0, 1, 1, 1), 0);
    noErrors(y);
  }

  private static void hushOfAll() {
    Checks.topic("HUSH: all nine are to be shut");
    FountainTalk x = ninePipes();
    due("how many", x.hush(0, 1, 1, 0), 9);
    due("the set", x.hush(0, 99, 1, 1), 511);
    x.turn(4, 0);
    due("eight are OPEN, how many", x.hush(0, 1, 1, 0), 8);
    due("eight are OPEN, the set", x.hush(0, 1, 1, 1), 511 - 16);
    for (int p = 0; p < 8; p++) x.turn(p, 0);
    due("the last is OPEN, how many", x.hush(0, 1, 1, 0), 1);
    due("the last is OPEN, the set", x.hush(0, 1, 1, 1), 256);
    due("only thought", x.count(4), 256);
    due("TALK", x.fountainIs(1, 3), 0);
  }

  private static void hushTheLeast() {
    Checks.topic("HUSH: of several sets the least (bits)");
    FountainTalk x = chain(8, 1);
    for (int at = 1; at < 8; at++) {
      due("any PIPE ahead of it, how many", x.hush(0, 1, at, 0), 1);
      due("the least of them", x.hush(0, 1, at, 1), 1);
      due("from the one above it", x.hush(at - 1, 1, at, 1), 1 << (at - 1));
    }
    // two ways, of PIPES 0, 2 and of PIPES 1, 3
    FountainTalk y = one(0, 9);
    y.fountain(0, 5);
    y.fountain(0, 5);
    y.fountain(0, 0);
    y.pipe(1, 3, 1);
    y.pipe(2, 3, 1);
    y.pipe(0, 1, 1);
    y.pipe(0, 2, 1);
    due("one of each way", y.hush(0, 1, 3, 0), 2);
    due("the least of four", y.hush(0, 1, 3, 1), 3);
    y.turn(0, 0);
    due("one way is shut", y.hush(0, 1, 3, 1), 2);
    // one PIPE of a higher number is fewer than two of lower ones
    FountainTalk z = one(0, 9);
    z.fountain(0, 5);
    z.fountain(0, 0);
    z.pipe(0, 1, 1);
    z.pipe(0, 1, 2);
    z.pipe(1, 2, 1);
    due("fewest", z.hush(0, 1, 2, 0), 1);
    due("PIPE 2", z.hush(0, 1, 2, 1), 4);
    FountainTalk w = one(0, 9);
    w.fountain(0, 5);
    w.fountain(0, 0);
    w.pipe(0, 1, 1);
    w.pipe(0, 1, 2);
    for (int p = 2; p < 8; p++) {
      due("PIPES 0 and 1, how many", w.hush(0, 1, 1, 0), p);
      w.pipe(0, 1, 3);
    }
    w.pipe(1, 2, 1);
    due("fewest", w.hush(0, 1, 2, 0), 1);
    due("PIPE 8", w.hush(0, 1, 2, 1), 256);
    due("and at 1 all eight", w.hush(0, 1, 1, 1), 255);
    FountainTalk v = one(0, 9);
    v.fountain(0, 5);
    v.fountain(0, 0);
    v.fountain(0, 0);
    v.pipe(0, 1, 1);
    v.pipe(0, 1, 1);
    v.pipe(0, 3, 1);
    v.pipe(1, 2, 1);
    due("PIPE 2 is of no use, PIPE 3 is", v.hush(0, 1, 2, 1), 8);
  }

  private static void reachOfNone() {
    Checks.topic("REACH: none is to be OPEN");
    FountainTalk x = chain(2, 5);
    for (int by : new int[] {0, 1, 99}) {
      due("where it starts, how many", x.reach(0, 1, 0, by, 0), 0);
      due("where it starts, the set", x.reach(1, 99, 1, by, 1), 0);
    }
    due("heard just then", x.reach(0, 1, 1, 5, 0), 0);
    due("one sooner", x.reach(0, 1, 1, 4, 0), -1000000002);
    due("one later", x.reach(0, 1, 1, 6, 1), 0);
    FountainTalk y = one(0, 9);
    y.fountain(0, 0);
    due("there are no PIPES", y.reach(0, 1, 1, 99, 0), -1000000002);
    due("there are no PIPES, the set", y.reach(0, 1, 1, 99, 1), -1000000002);
    due("counted", y.told(2), 2);
  }

  private static void reachOfMany() {
    Checks.topic("REACH: fewest, and of several sets the least");
    FountainTalk x = chain(8, 1);
    for (int p = 0; p < 7; p++) x.turn(p, 0);
    for (int at = 1; at < 8; at++) {
      due("how many", x.reach(0, 1, at, 99, 0), at);
      due("the set", x.reach(0, 1, at, at, 1), (1 << at) - 1);
      due("one sooner", x.reach(0, 1, at, at - 1, 1), -1000000002);
    }
    due("only thought", x.count(4), 0);
    FountainTalk y = ninePipes();
    for (int p = 0; p < 9; p++) y.turn(p, 0);
    due("one of nine", y.reach(0, 1, 1, 99, 0), 1);
    due("the least", y.reach(0, 1, 1, 99, 1), 1);
    y.turn(8, 1);
    due("the last is OPEN, and too slow by 8", y.reach(0, 1, 1, 8, 1), 1);
    due("the last is OPEN", y.reach(0, 1, 1, 9, 1), 0);
    // one PIPE of a higher number is fewer than two of lower ones
    FountainTalk w = one(0, 9);
    w.fountain(0, 5);
    w.fountain(0, 0);
    w.fountain(0, 0);
    w.pipe(0, 1, 1);
    w.pipe(1, 2, 1);
    w.pipe(0, 3, 1);
    w.pipe(0, 2, 9);
    for (int p = 0; p < 4; p++) w.turn(p, 0);
    due("by 9: fewest", w.reach(0, 1, 2, 9, 0), 1);
    due("by 9: PIPE 3", w.reach(0, 1, 2, 9, 1), 8);
    due("by 8: fewest", w.reach(0, 1, 2, 8, 0), 2);
    due("by 8: PIPES 0 and 1", w.reach(0, 1, 2, 8, 1), 3);
    due("by 2", w.reach(0, 1, 2, 2, 1), 3);
    due("not by 1", w.reach(0, 1, 2, 1, 1), -1000000002);
    // the ninth PIPE alone
    FountainTalk z = new FountainTalk();
    z.fountain(0, 9);
    z.fountain(0, 5);
    z.fountain(0, 0);
    for (int p = 0; p < 8; p++) z.pipe(0, 1, 1);
    z.pipe(0, 2, 1);
    for (int p = 0; p < 9; p++) z.turn(p, 0);
    due("PIPE 8, how many", z.reach(0, 1, 2, 1, 0), 1);
    due("PIPE 8, the set", z.reach(0, 1, 2, 1, 1), 256);
  }

  private static void reachJustInTime() {
    Checks.topic("REACH: by so late");
    FountainTalk x = ninePipes();
    for (int p = 0; p < 9; p++) x.turn(p, 0);
    x.turn(8, 1);
    for (int p = 0; p < 8; p++) {
      FountainTalk y = ninePipes();
      for (int q = 0; q < 9; q++) if (q != p) y.turn(q, 0);
      due("by " + (p + 1), y.reach(0, 1, 1, p + 1, 1), 0);
      due("by " + p, y.reach(0, 1, 1, p, 1), p == 0 ? -1000000002 : 1);
    }
    due("by 1", x.reach(0, 1, 1, 1, 1), 1);
    due("by 0", x.reach(0, 1, 1, 0, 1), -1000000002);
  }

  private static void reachTheLatest() {
    Checks.topic("REACH: by 99, and HOW SLOW up to 20");
    // 20 each down FOUNTAINS 0 to 4, then 19 by FROST
    FountainTalk x = chain(6, 1);
    Checks.text(x, 1, "20-(d=2)*f");
    due("at 100", x.heard(0, 1, 5, 0), 100);
    due("not by 99", x.reach(0, 1, 5, 99, 0), -1000000002);
    x.pipe(4, 5, 2);
    x.freeze(1);
    due("at 99", x.heard(0, 1, 5, 0), 99);
    due("by 99", x.reach(0, 1, 5, 99, 0), 0);
    due("not by 98", x.reach(0, 1, 5, 98, 0), -1000000002);
    x.turn(5, 0);
    due("by 99, with one to be OPEN", x.reach(0, 1, 5, 99, 1), 32);
  }

  private static void oddsInLowestTerms() {
    Checks.topic("ODDS: a fraction in lowest terms");
    int[][][] dues = {
      {{1, 1}},
      {{1, 2}, {1, 1}},
      {{1, 3}, {2, 3}, {1, 1}},
      {{1, 4}, {1, 2}, {3, 4}, {1, 1}},
      {{1, 5}, {2, 5}, {3, 5}, {4, 5}, {1, 1}},
      {{1, 6}, {1, 3}, {1, 2}, {2, 3}, {5, 6}, {1, 1}},
      {{1, 7}, {2, 7}, {3, 7}, {4, 7}, {5, 7}, {6, 7}, {1, 1}},
      {{1, 8}, {1, 4}, {3, 8}, {1, 2}, {5, 8}, {3, 4}, {7, 8}, {1, 1}}
    };
    for (int many = 1; many <= 8; many++) {
      FountainTalk x = chain(many, 1);
      for (int at = 0; at < many; at++) {
        due("above, at " + at + " of " + many, x.odds(at, 99, 0), dues[many - 1][at][0]);
        due("below, at " + at + " of " + many, x.odds(at, 1, 1), dues[many - 1][at][1]);
      }
      noErrors(x);
    }
  }

  private static void fitsAtItsEnds() {
    Checks.topic("FITS: SAYINGS of SIZE 1 .. 20, from any FOUNTAIN; the least");
    FountainTalk x = new FountainTalk();
    for (int f = 0; f < 8; f++) x.fountain(0, 0);
    x.sheet(0, 8, 0);
    due("no numbers: all", x.fits(0, 0), 160);
    due("the least of all", x.fits(0, 1), 1);
    x.sheet(0, 32, 8);
    due("not heard by any", x.fits(0, 0), 0);
    due("there is none", x.fits(0, 1), -1000000002);
    int[][] rows = {{0, 1, 1}, {0, 20, 20}, {0, 21, -1}, {7, 1, 701}, {7, 20, 720}, {7, 21, -1}, {3, 256, -1}, {3, -1, -1}, {3, 99, -1}};
    for (int[] row : rows) {
      x.put(0, row[0], row[1]);
      due(row[1] + " at " + row[0], x.fits(0, 0), row[2] < 0 ? 0 : 1);
      due("which", x.fits(0, 1), row[2] < 0 ? -1000000002 : row[2]);
      x.put(0, row[0], 0);
    }
    x.sheet(0, 8, 7);
    due("what it does not tell of does not matter", x.fits(0, 0), 20);
    due("from 7", x.fits(0, 1), 701);
    x.sheet(0, 8, 9);
    x.put(0, 7, 5);
    due("of a ninth FOUNTAIN", x.fits(0, 0), 0);
    FountainTalk y = chain(2, 1);
    y.become(0, 60);
    y.sheet(1, 16, 2);
    y.put(1, 0, 20);
    y.put(1, 1, 1);
    due("SIZE 20", y.fits(1, 1), 20);
    y.become(0, 0);
    y.put(1, 1, 21);
    due("what is heard below may be above 20", y.fits(1, 1), 20);
    y.sheet(1, 16, 1);
    due("the least of twenty", y.fits(1, 1), 101);
    due("how many", y.fits(1, 0), 20);
  }

  // ---- 4: VOICES

  private static void termsOfVoices() {
    voicesWrap();
    voicesCut();
    partsByEachNumber();
    traceOfTheLatest();
    theLongestTrace();
  }

  /** FOUNTAIN k with km, all others SPOUTS. */
  private static FountainTalk asNumber(int k, int km) {
    FountainTalk x = new FountainTalk();
    for (int f = 0; f < k; f++) x.fountain(0, 0);
    due("number", x.fountain(km, 0), k);
    return x;
  }

  /** FOUNTAIN, KIND and m, VOICE, x, and what it answers. */
  private static final int[][] VOICES = {
    {7, 0, 0, MAX, MIN + 6}, {0, 0, 0, MAX, MAX}, {0, 0, 0, MIN, MIN}, {7, 0, 0, MIN, MIN + 7},
    {0, 0, 1, MIN, 0}, {0, 0, 1, MAX, -2}, {0, 0, 1, 1 << 30, MIN}, {7, 0, 1, MAX, -2 + 14},
    {0, 9, 2, MIN, -9}, {0, 9, 2, 1 << 30, MAX - 8}, {0, 9, 2, MAX, -11},
    {0, 10, 0, MIN, MAX - 3}, {0, 10, 0, MIN + 3, MAX}, {0, 10, 0, MIN + 4, MIN}, {0, 19, 1, MIN, -8}, {0, 19, 2, MIN, -17},
    {0, 20, 1, 1 << 30, MIN}, {0, 20, 1, MAX, 2}, {0, 20, 1, 0, 0}, {0, 29, 2, 1 << 30, MAX - 8},
    {0, 30, 2, -1, 0}, {0, 30, 2, 1, 0}, {0, 30, 2, -3, -2}, {0, 30, 2, MIN, MIN}, {0, 30, 2, MAX, MAX - 1},
    {0, 40, 0, MIN, MAX * 3 - 9}, {0, 40, 0, MAX, (MAX - 4) * 3}, {0, 40, 1, 1 << 30, ((1 << 30) - 4) * 6}, {7, 40, 2, 0, 18 ^ 7},
    {7, 40, 2, -1, 12 ^ 7}, {7, 40, 2, -3, 0 ^ 7}, {7, 49, 2, -3, -9 ^ 7}, {1, 49, 2, 0, -27 ^ 1},
    {0, 50, 1, MAX, 0}, {0, 50, 1, (1 << 30) - 1, MIN}, {0, 50, 1, -1, 0}, {0, 59, 2, (1 << 30) - 1, MAX - 8},
    {0, 60, 0, MIN, 9}, {7, 69, 0, MAX, 9}, {0, 69, 1, MAX, 27}, {7, 60, 1, MIN, 18}, {7, 69, 2, 0, 18},
    {1, 0, 3, MIN, MIN}, {1, 0, 3, MAX, -MAX}, {0, 1, 3, MIN, MIN}, {0, 9, 3, MIN, MIN / 9}, {7, 0, 3, MIN, 306783378},
    {0, 11, 3, MIN, MIN - 6}, {1, 10, 3, MIN + 3, MAX - 6}, {0, 41, 3, MIN, MIN - 18}, {0, 41, 3, MAX, MAX - 18}
  };

  private static void voicesWrap() {
    Checks.topic("VOICES: ints that wrap");
    for (int[] row : VOICES) {
      FountainTalk x = asNumber(row[0], row[1]);
      String what = "voice(" + row[2] + ", " + row[3] + ") of " + row[1] + " as number " + row[0];
      due(what, x.voice(row[0], row[2], row[3]), row[4]);
      noErrors(x);
    }
  }

  private static void voicesCut() {
    Checks.topic("quotients are cut toward 0");
    FountainTalk x = asNumber(0, 32);
    int[][] halves = {{-3, -1}, {-2, -1}, {-1, 0}, {0, 0}, {1, 0}, {2, 1}, {3, 1}};
    for (int[] row : halves) due("drips of " + row[0], x.voice(0, 2, row[0]), 2 * row[1] - 2);
    int[][] parts = {{-5, -2}, {-4, -2}, {-3, -1}, {-2, -1}, {-1, 0}, {0, 0}, {1, 0}, {2, 1}, {3, 1}};
    for (int[] row : parts) due("parts of " + row[0] + " by 2", x.voice(0, 3, row[0]), row[1]);
    FountainTalk y = asNumber(2, 0);
    for (int[] row : parts) due("parts of " + row[0] + " by -2", y.voice(2, 3, row[0]), -row[1]);
  }

  private static void partsByEachNumber() {
    Checks.topic("13 parts: x by (m - k), PARTED if that is 0");
    for (int kind : new int[] {0, 2, 3, 5, 6}) {
      FountainTalk x = new FountainTalk();
      for (int f = 0; f < 8; f++) x.fountain(0, 0);
      int parted = 0;
      for (int k = 0; k < 8; k += 7) {
        for (int m = 0; m < 10; m++) {
          x.become(k, 10 * kind + m);
          due("parts of 72 by " + (m - k), x.voice(k, 3, 72), m == k ? -1000000006 : 72 / (m - k));
          due("parts of 0 by " + (m - k), x.voice(k, 3, 0), m == k ? -1000000006 : 0);
          due("BODIES", x.count(7), 1);
          due("BODY", x.body(0), 13);
          if (m == k) parted += 2;
        }
      }
      due("PARTED", x.told(6), parted);
    }
  }

  private static void traceOfTheLatest() {
    Checks.topic("THE TRACE, of the latest voice()");
    FountainTalk x = asNumber(2, 46);
    due("none yet", x.count(7), 0);
    due("none yet", x.body(0), -1000000002);
    x.voice(2, 2, 5);
    int[] six = {51, 12, 11, 50, 20, 10};
    due("six", x.count(7), 6);
    for (int i = 0; i < 6; i++) due("body(" + i + ")", x.body(i), six[i]);
    for (int i : new int[] {-1, 6, 7, 29, 30, MIN, MAX}) due("body(" + i + ")", x.body(i), -1000000002);
    due("BEYOND", x.voice(3, 0, 0), -1000000001);
    due("BEYOND", x.voice(2, 4, 0), -1000000001);
    due("the one ahead stays", x.count(7), 6);
    due("the one ahead stays", x.body(0), 51);
    x.voice(2, 3, 0);
    int[] parts = {21, 13, 11, 50, 20, 10};
    due("six", x.count(7), 6);
    for (int i = 0; i < 6; i++) due("body(" + i + ")", x.body(i), parts[i]);
    x.become(2, 42);
    due("PARTED", x.voice(2, 3, 0), -1000000006);
    due("two", x.count(7), 2);
    due("body(1)", x.body(1), 13);
    due("body(2) is gone", x.body(2), -1000000002);
    x.voice(2, 0, 0);
    due("three", x.count(7), 3);
    due("body(2)", x.body(2), 10);
    x.image();
    x.voice(2, 1, 0);
    x.restore();
    due("restore() leaves it", x.count(7), 4);
    due("restore() leaves it", x.body(0), 11);
  }

  /** The first 30 of THE TRACE are all: no voice() has more than six. */
  private static void theLongestTrace() {
    Checks.topic("THE TRACE: the first 30");
    int[][] dues = {{1, 2, 3, 1}, {2, 3, 4, 5}, {1, 3, 4, 1}, {1, 2, 4, 1}, {3, 4, 6, 6}, {1, 4, 5, 1}, {1, 3, 4, 1}};
    for (int kind = 0; kind < 7; kind++) {
      FountainTalk x = one(10 * kind + 1, 0);
      for (int voice = 0; voice < 4; voice++) {
        x.voice(0, voice, 5);
        due("BODIES of KIND " + kind + ", VOICE " + voice, x.count(7), dues[kind][voice]);
        due("there are no more", x.body(dues[kind][voice]), -1000000002);
      }
    }
  }

  // ---- 4: SHEETS

  private static void termsOfSheets() {
    missingAndEmpty();
    lowestBits();
    everyNumberOfASheet();
    movesAtTheEnds();
    movesAsTheyAllWere();
    talksUpTo();
    judgesUpTo();
  }

  private static void missingAndEmpty() {
    Checks.topic("SHEETS 0 .. 3, or missing (as at first)");
    FountainTalk x = new FountainTalk();
    for (int s = 0; s < 4; s++) {
      due("missing: talks", x.talks(s), -1000000002);
      for (int bits : new int[] {8, 16, 32}) {
        due("sheet of none", x.sheet(s, bits, 0), 1);
        due("talks of none", x.talks(s), 0);
        due("judge of none", x.judge(s), 0);
        due("move of none", x.move(s, 0, s, 0, 0), 0);
        due("sheet of 24", x.sheet(s, bits, 24), 1);
        due("move of 24", x.move(s, 0, s, 0, 24), 24);
        due("put the last", x.put(s, 23, 1), 1);
      }
      for (int n : new int[] {0, 24, 25, -1, MIN, MAX}) due("missing, n " + n, x.sheet(s, 0, n), 1);
      due("missing: judge", x.judge(s), -1000000002);
      due("missing: put", x.put(s, 0, 1), -1000000002);
    }
    due("BEYOND", x.told(1), 0);
    due("STATE", x.told(3), 0);
  }

  /** Bits, what is put, and the number that it is as, or -1 for one below 0. */
  private static final int[][] BITS = {
    {8, 0, 0}, {8, 1, 1}, {8, 127, 127}, {8, 128, -1}, {8, 255, -1}, {8, 256, 0}, {8, 257, 1}, {8, 383, 127}, {8, 384, -1},
    {8, -1, -1}, {8, -128, -1}, {8, -129, 127}, {8, -256, 0}, {8, -255, 1}, {8, MIN, 0}, {8, MAX, -1},
    {16, 127, 127}, {16, 128, 128}, {16, 255, 255}, {16, 256, 256}, {16, 32767, 32767}, {16, 32768, -1}, {16, 65535, -1},
    {16, 65536, 0}, {16, 65537, 1}, {16, -1, -1}, {16, -32768, -1}, {16, -32769, 32767}, {16, -65536, 0}, {16, MIN, 0}, {16, MAX, -1},
    {32, 32768, 32768}, {32, 65535, 65535}, {32, 65536, 65536}, {32, 99999, 99999}, {32, -1, -1}, {32, MIN, -1}, {32, 0, 0}
  };

  private static void lowestBits() {
    Checks.topic("29 put: a number becomes v (its lowest bits)");
    for (int[] row : BITS) {
      FountainTalk x = one(0, 0, 7);
      x.sheet(0, row[0], 1);
      due("put", x.put(0, 0, row[1]), 1);
      due("talks by " + row[1] + " in " + row[0] + " bits", x.talks(0), row[2] < 0 ? 0 : 1);
      due("TALK by " + row[1] + " in " + row[0] + " bits", x.fountainIs(0, 3), row[2] < 0 ? 7 : row[2]);
      noErrors(x);
    }
  }

  private static void everyNumberOfASheet() {
    Checks.topic("28 sheet: n numbers, all 0");
    for (int n : new int[] {1, 2, 8, 23, 24}) {
      FountainTalk x = one(0, 0, 7);
      x.sheet(1, 16, 24);
      for (int i = 0; i < 24; i++) x.put(1, i, 5);
      due("sheet", x.sheet(1, 16, n), 1);
      due("another", x.sheet(0, 16, 1), 1);
      for (int i = 0; i < n; i++) {
        x.put(0, 0, 9);
        due("move of number " + i, x.move(1, i, 0, 0, 1), 1);
        due("talks", x.talks(0), 1);
        due("number " + i, x.fountainIs(0, 3), 0);
        due("put number " + i, x.put(1, i, i + 1), 1);
        x.move(1, i, 0, 0, 1);
        x.talks(0);
        due("number " + i, x.fountainIs(0, 3), i + 1);
      }
      due("number " + n, x.put(1, n, 1), -1000000001);
      due("number -1", x.put(1, -1, 1), -1000000001);
      due("sheet once more", x.sheet(1, 16, n), 1);
      x.move(1, n - 1, 0, 0, 1);
      x.talks(0);
      due("all 0", x.fountainIs(0, 3), 0);
    }
  }

  /** SHEET 0 has three numbers 1, 2, 3, SHEET 1 five numbers 0, and there are eight FOUNTAINS. */
  private static FountainTalk twoSheets() {
    FountainTalk x = chain(8, 1);
    x.sheet(0, 8, 3);
    x.sheet(1, 8, 5);
    for (int i = 0; i < 3; i++) x.put(0, i, i + 1);
    return x;
  }

  private static void movesAtTheEnds() {
    Checks.topic("30 move: they stand there");
    for (int i = -1; i <= 4; i++) {
      for (int j = -1; j <= 6; j++) {
        for (int n = -1; n <= 6; n++) {
          boolean stand = i >= 0 && j >= 0 && n >= 0 && i + n <= 3 && j + n <= 5;
          FountainTalk x = twoSheets();
          due("move(0, " + i + ", 1, " + j + ", " + n + ")", x.move(0, i, 1, j, n), stand ? n : -1000000001);
          due("talks", x.talks(1), 5);
          for (int f = 0; f < 5; f++) {
            boolean moved = stand && f >= j && f < j + n;
            due("number " + f + " then", x.fountainIs(f, 3), moved ? 1 + i + f - j : 0);
          }
        }
      }
    }
  }

  private static void movesAsTheyAllWere() {
    Checks.topic("30 move: as they all were");
    for (int bits : new int[] {8, 16, 32}) {
      for (int i = 0; i <= 6; i++) {
        for (int j = 0; j <= 6; j++) {
          int n = 6 - Math.max(i, j);
          FountainTalk x = chain(8, 1);
          x.sheet(2, bits, 6);
          for (int at = 0; at < 6; at++) x.put(2, at, 11 * at);
          due("move", x.move(2, i, 2, j, n), n);
          due("talks", x.talks(2), 6);
          for (int f = 0; f < 6; f++) {
            boolean moved = f >= j && f < j + n;
            due("number " + f + " of " + i + " to " + j, x.fountainIs(f, 3), 11 * (moved ? i + f - j : f));
          }
        }
      }
    }
  }

  private static void talksUpTo() {
    Checks.topic("31 talks: how many, up to the first that is not 0 to 99999, or for which there is no FOUNTAIN");
    for (int many = 0; many <= 8; many++) {
      for (int n : new int[] {0, 1, 7, 8, 9, 24}) {
        FountainTalk x = chain(many, 1);
        x.sheet(0, 32, n);
        for (int i = 0; i < n; i++) x.put(0, i, 99999 - i);
        int due = Math.min(many, n);
        due(n + " numbers, " + many + " FOUNTAINS", x.talks(0), due);
        for (int f = 0; f < many; f++) due("TALK", x.fountainIs(f, 3), f < n ? 99999 - f : 0);
        noErrors(x);
      }
    }
    for (int odd : new int[] {-1, 100000, MIN, MAX}) {
      for (int at = 0; at < 8; at++) {
        FountainTalk x = chain(8, 1);
        x.sheet(0, 32, 8);
        for (int i = 0; i < 8; i++) x.put(0, i, i == at ? odd : 99999 * (i % 2));
        due(odd + " at " + at, x.talks(0), at);
        for (int f = 0; f < 8; f++) due("TALK of " + f, x.fountainIs(f, 3), f < at ? 99999 * (f % 2) : 0);
        noErrors(x);
      }
    }
  }

  private static void judgesUpTo() {
    Checks.topic("32 judge: how many are right, from the first on");
    for (int n : new int[] {0, 1, 8, 9, 10, 24}) {
      FountainTalk x = ninePipes();
      x.sheet(0, 8, n);
      for (int p = 0; p < n; p++) x.put(0, p, p + 1);
      due("all right of " + n, x.judge(0), Math.min(n, 9));
      for (int p = 0; p < Math.min(n, 9); p++) {
        x.put(0, p, p == 0 ? 2 : p);
        due("number " + p + " is wrong", x.judge(0), p);
        x.put(0, p, p + 1);
      }
      noErrors(x);
    }
    FountainTalk x = chain(2, 1);
    x.sheet(0, 8, 2);
    x.put(0, 0, 1);
    due("0 is not right where there is no PIPE", x.judge(0), 1);
    x.put(0, 0, 257);
    due("the lowest bits", x.judge(0), 1);
    x.sheet(1, 16, 1);
    x.put(1, 0, 257);
    due("of 16 bits", x.judge(1), 0);
    FountainTalk y = new FountainTalk();
    y.sheet(0, 8, 1);
    due("there are no PIPES", y.judge(0), 0);
    noErrors(y);
  }

  // ---- what is empty, what is full

  private static void whatIsEmpty() {
    Checks.topic("a new object");
    FountainTalk x = new FountainTalk();
    int[] counts = {0, 0, 0, 0, 0, 0, 0, 0, 1};
    for (int what = 0; what <= 8; what++) due("count(" + what + ")", x.count(what), counts[what]);
    due("nothing waits", x.check(), 0);
    due("no TEXT", x.untell(0), 0);
    due("no TEXT", x.untell(1), 0);
    due("a DAY without FOUNTAINS", x.days(1), 1);
    due("FROST", x.freeze(0), 0);
    due("z", x.seed(1), 1);
    noErrors(x);
    due("no bytes", x.text(0), -10);
    noErrors(x);
    due("no FOUNTAIN", x.hears(0, 1), -1000000001);
    due("no PIPE", x.pipeIs(0, 0), -1000000001);
    due("no TRACE", x.body(0), -1000000002);
    due("no IMAGE", x.restore(), -1000000002);
    due("no SHEET", x.fits(0, 0), -1000000002);
    Checks.topic("36 check, at its ends");
    due("one waits, no FOUNTAINS", x.tell(0), 1);
    due("there is no FOUNTAIN for it", x.check(), 1);
    due("none waits then", x.check(), 0);
    FountainTalk y = chain(8, 1);
    talk(y, 0, 99999, 2, 3, 4, 5, 6, 7);
    int[] talks = {0, 99999, 2, 3, 4, 5, 6, 7};
    for (int wrong = 0; wrong <= 8; wrong++) {
      for (int f = 0; f < 8; f++) y.tell(f == wrong ? talks[f] + 1 : talks[f]);
      due("the one that isn't so: " + wrong, y.check(), wrong == 8 ? 0 : 1 + wrong);
      due("none waits", y.count(6), 0);
    }
    for (int f = 0; f < 8; f++) y.tell(talks[f]);
    y.tell(0);
    due("a ninth, for which there is no FOUNTAIN", y.check(), 9);
    for (int v : new int[] {MIN, MAX, -1, 100000}) {
      y.tell(v);
      due("any number waits", y.check(), 1);
    }
    noErrors(y);
  }

  private static void whatIsFull() {
    Checks.topic("35 tell: FULL: 24 wait");
    FountainTalk x = new FountainTalk();
    for (int i = 1; i <= 24; i++) due("tell", x.tell(i), i);
    due("count(6)", x.count(6), 24);
    due("a 25th", x.tell(0), -1000000004);
    due("a 26th", x.tell(0), -1000000004);
    due("count(6)", x.count(6), 24);
    due("check", x.check(), 1);
    for (int i = 1; i <= 24; i++) due("tell once more", x.tell(0), i);
    due("FULL once more", x.tell(0), -1000000004);
    due("counted", x.told(4), 3);
    Checks.topic("2 fountain, 8 pipe: FULL");
    FountainTalk y = ninePipes();
    for (int f = 2; f < 8; f++) due("fountain", y.fountain(0, 0), f);
    due("a ninth FOUNTAIN", y.fountain(0, 0), -1000000004);
    due("a tenth PIPE", y.pipe(0, 7, 1), -1000000004);
    due("FOUNTAINS", y.count(0), 8);
    due("PIPES", y.count(1), 9);
    due("become is not FULL", y.become(7, 69), 0);
    due("turn is not FULL", y.turn(8, 0), 1);
    due("a tenth PIPE when one is shut", y.pipe(0, 7, 1), -1000000004);
  }

  // ---- IMAGES

  private static void imagesAtTheEdge() {
    Checks.topic("33 image, 34 restore, of an empty city");
    FountainTalk x = new FountainTalk();
    due("image", x.image(), 1);
    x.fountain(69, 9);
    x.fountain(69, 0);
    x.pipe(0, 1, 1);
    Checks.text(x, 0, "z*2");
    Checks.feed(x, "z");
    x.tell(1);
    x.freeze(9);
    x.loose(1);
    x.sheet(0, 8, 1);
    x.voice(0, 1, 1);
    int beyond = x.fountain(70, 0);
    due("restore", x.restore(), 0);
    int[] counts = {0, 0, 0, 0, 0, 0, 0, 3, 1};
    for (int what = 0; what <= 8; what++) due("count(" + what + ")", x.count(what), counts[what]);
    due("no TEXT", x.untell(0), 0);
    due("the SHEET stays", x.put(0, 0, 1), 1);
    due("what told() tells stays", x.told(1), beyond == -1000000001 ? 1 : -1);
    due("a FOUNTAIN is the first again", x.fountain(0, 0), 0);
    due("its TALK", x.fountainIs(0, 3), 0);
    due("restore", x.restore(), 0);
    due("FOUNTAINS", x.count(0), 0);
    due("how often it was done stays", x.image(), 2);
    Checks.topic("33 image, 34 restore, of a full city");
    FountainTalk y = Cities.full();
    java.util.List<Integer> seen = Cities.seen(y);
    y.become(7, 11);
    y.turn(8, 1);
    y.freeze(0);
    y.days(30);
    y.let(7, 99);
    y.seed(1);
    y.check();
    y.text(0);
    Checks.feed(y, "(k)-h|z");
    y.tell(5);
    y.untell(1);
    due("DAY", y.restore(), 30);
    Checks.isTrue("all is as the IMAGE has it", seen.equals(Cities.seen(y)));
    due("the numbers that wait", y.check(), 9);
    due("THE TAPE", y.text(1), -10 - 56);
    due("DAY, once more", y.restore(), 30);
    due("THE TAPE", y.text(0), 1);
    due("its law", y.law(0, 40, 0, 0), 56);
  }
}
