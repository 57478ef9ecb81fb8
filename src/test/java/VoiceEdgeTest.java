/** 'Terms' 4: VOICES and THE TRACE. */
public final class VoiceEdgeTest extends Edges {
  public static void main(String[] args) {
    voicesWrap();
    voicesCut();
    partsByEachNumber();
    traceOfTheLatest();
    theLongestTrace();
    Checks.end();
  }

  /** FOUNTAIN k with km, all others SPOUTS. */
  private static FountainTalk asNumber(int k, int km) {
    FountainTalk x = new FountainTalk();
    for (int f = 0; f < k; f++) x.fountain(0, 0);
    due("number", x.fountain(km, 0), k);
    return x;
  }

  /** FOUNTAIN, KIND and m, VOICE, x, and what it answers. */
  private static final int[][] VOICES = {
    {7, 0, 0, MAX, MIN + 6}, {0, 0, 0, MAX, MAX}, {0, 0, 0, MIN, MIN}, {7, 0, 0, MIN, MIN + 7},
    {0, 0, 1, MIN, 0}, {0, 0, 1, MAX, -2}, {0, 0, 1, 1 << 30, MIN}, {7, 0, 1, MAX, -2 + 14},
    {0, 9, 2, MIN, -9}, {0, 9, 2, 1 << 30, MAX - 8}, {0, 9, 2, MAX, -11},
    {0, 10, 0, MIN, MAX - 3}, {0, 10, 0, MIN + 3, MAX}, {0, 10, 0, MIN + 4, MIN}, {0, 19, 1, MIN, -8}, {0, 19, 2, MIN, -17},
    {0, 20, 1, 1 << 30, MIN}, {0, 20, 1, MAX, 2}, {0, 20, 1, 0, 0}, {0, 29, 2, 1 << 30, MAX - 8},
    {0, 30, 2, -1, 0}, {0, 30, 2, 1, 0}, {0, 30, 2, -3, -2}, {0, 30, 2, MIN, MIN}, {0, 30, 2, MAX, MAX - 1},
    {0, 40, 0, MIN, MAX * 3 - 9}, {0, 40, 0, MAX, (MAX - 4) * 3}, {0, 40, 1, 1 << 30, ((1 << 30) - 4) * 6}, {7, 40, 2, 0, 18 ^ 7},
    {7, 40, 2, -1, 12 ^ 7}, {7, 40, 2, -3, 0 ^ 7}, {7, 49, 2, -3, -9 ^ 7}, {1, 49, 2, 0, -27 ^ 1},
    {0, 50, 1, MAX, 0}, {0, 50, 1, (1 << 30) - 1, MIN}, {0, 50, 1, -1, 0}, {0, 59, 2, (1 << 30) - 1, MAX - 8},
    {0, 60, 0, MIN, 9}, {7, 69, 0, MAX, 9}, {0, 69, 1, MAX, 27}, {7, 60, 1, MIN, 18}, {7, 69, 2, 0, 18},
    {1, 0, 3, MIN, MIN}, {1, 0, 3, MAX, -MAX}, {0, 1, 3, MIN, MIN}, {0, 9, 3, MIN, MIN / 9}, {7, 0, 3, MIN, 306783378},
    {0, 11, 3, MIN, MIN - 6}, {1, 10, 3, MIN + 3, MAX - 6}, {0, 41, 3, MIN, MIN - 18}, {0, 41, 3, MAX, MAX - 18}
  };

  private static void voicesWrap() {
    Checks.topic("VOICES: ints that wrap");
    for (int[] row : VOICES) {
      FountainTalk x = asNumber(row[0], row[1]);
      String what = "voice(" + row[2] + ", " + row[3] + ") of " + row[1] + " as number " + row[0];
      due(what, x.voice(row[0], row[2], row[3]), row[4]);
      noErrors(x);
    }
  }

  private static void voicesCut() {
    Checks.topic("quotients are cut toward 0");
    FountainTalk x = asNumber(0, 32);
    int[][] halves = {{-3, -1}, {-2, -1}, {-1, 0}, {0, 0}, {1, 0}, {2, 1}, {3, 1}};
    for (int[] row : halves) due("drips of " + row[0], x.voice(0, 2, row[0]), 2 * row[1] - 2);
    int[][] parts = {{-5, -2}, {-4, -2}, {-3, -1}, {-2, -1}, {-1, 0}, {0, 0}, {1, 0}, {2, 1}, {3, 1}};
    for (int[] row : parts) due("parts of " + row[0] + " by 2", x.voice(0, 3, row[0]), row[1]);
    FountainTalk y = asNumber(2, 0);
    for (int[] row : parts) due("parts of " + row[0] + " by -2", y.voice(2, 3, row[0]), -row[1]);
  }

  private static void partsByEachNumber() {
    Checks.topic("13 parts: x by (m - k), PARTED if that is 0");
    for (int kind : new int[] {0, 2, 3, 5, 6}) {
      FountainTalk x = new FountainTalk();
      for (int f = 0; f < 8; f++) x.fountain(0, 0);
      int parted = 0;
      for (int k = 0; k < 8; k += 7) {
        for (int m = 0; m < 10; m++) {
          x.become(k, 10 * kind + m);
          due("parts of 72 by " + (m - k), x.voice(k, 3, 72), m == k ? -1000000006 : 72 / (m - k));
          due("parts of 0 by " + (m - k), x.voice(k, 3, 0), m == k ? -1000000006 : 0);
          due("BODIES", x.count(7), 1);
          due("BODY", x.body(0), 13);
          if (m == k) parted += 2;
        }
      }
      due("PARTED", x.told(6), parted);
    }
  }

  private static void traceOfTheLatest() {
    Checks.topic("THE TRACE, of the latest voice()");
    FountainTalk x = asNumber(2, 46);
    due("none yet", x.count(7), 0);
    due("none yet", x.body(0), -1000000002);
    x.voice(2, 2, 5);
    int[] six = {51, 12, 11, 50, 20, 10};
    due("six", x.count(7), 6);
    for (int i = 0; i < 6; i++) due("body(" + i + ")", x.body(i), six[i]);
    for (int i : new int[] {-1, 6, 7, 29, 30, MIN, MAX}) due("body(" + i + ")", x.body(i), -1000000002);
    due("BEYOND", x.voice(3, 0, 0), -1000000001);
    due("BEYOND", x.voice(2, 4, 0), -1000000001);
    due("the one ahead stays", x.count(7), 6);
    due("the one ahead stays", x.body(0), 51);
    x.voice(2, 3, 0);
    int[] parts = {21, 13, 11, 50, 20, 10};
    due("six", x.count(7), 6);
    for (int i = 0; i < 6; i++) due("body(" + i + ")", x.body(i), parts[i]);
    x.become(2, 42);
    due("PARTED", x.voice(2, 3, 0), -1000000006);
    due("two", x.count(7), 2);
    due("body(1)", x.body(1), 13);
    due("body(2) is gone", x.body(2), -1000000002);
    x.voice(2, 0, 0);
    due("three", x.count(7), 3);
    due("body(2)", x.body(2), 10);
    x.image();
    x.voice(2, 1, 0);
    x.restore();
    due("restore() leaves it", x.count(7), 4);
    due("restore() leaves it", x.body(0), 11);
  }

  /** The first 30 of THE TRACE are all: no voice() has more than six. */
  private static void theLongestTrace() {
    Checks.topic("THE TRACE: the first 30");
    int[][] dues = {{1, 2, 3, 1}, {2, 3, 4, 5}, {1, 3, 4, 1}, {1, 2, 4, 1}, {3, 4, 6, 6}, {1, 4, 5, 1}, {1, 3, 4, 1}};
    for (int kind = 0; kind < 7; kind++) {
      FountainTalk x = one(10 * kind + 1, 0);
      for (int voice = 0; voice < 4; voice++) {
        x.voice(0, voice, 5);
        due("BODIES of KIND " + kind + ", VOICE " + voice, x.count(7), dues[kind][voice]);
        due("there are no more", x.body(dues[kind][voice]), -1000000002);
      }
    }
  }
}
