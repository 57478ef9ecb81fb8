/** 'Terms' 4: SHEETS, and what is done by them. */
public final class SheetEdgeTest extends Edges {
  public static void main(String[] args) {
    missingAndEmpty();
    lowestBits();
    everyNumberOfASheet();
    movesAtTheEnds();
    movesAsTheyAllWere();
    talksUpTo();
    judgesUpTo();
    Checks.end();
  }

  private static void missingAndEmpty() {
    Checks.topic("SHEETS 0 .. 3, or missing (as at first)");
    FountainTalk x = new FountainTalk();
    for (int s = 0; s < 4; s++) {
      due("missing: talks", x.talks(s), -1000000002);
      for (int bits : new int[] {8, 16, 32}) {
        due("sheet of none", x.sheet(s, bits, 0), 1);
        due("talks of none", x.talks(s), 0);
        due("judge of none", x.judge(s), 0);
        due("move of none", x.move(s, 0, s, 0, 0), 0);
        due("sheet of 24", x.sheet(s, bits, 24), 1);
        due("move of 24", x.move(s, 0, s, 0, 24), 24);
        due("put the last", x.put(s, 23, 1), 1);
      }
      for (int n : new int[] {0, 24, 25, -1, MIN, MAX}) due("missing, n " + n, x.sheet(s, 0, n), 1);
      due("missing: judge", x.judge(s), -1000000002);
      due("missing: put", x.put(s, 0, 1), -1000000002);
    }
    due("BEYOND", x.told(1), 0);
    due("STATE", x.told(3), 0);
  }

  /** Bits, what is put, and the number that it is as, or -1 for one below 0. */
  private static final int[][] BITS = {
    {8, 0, 0}, {8, 1, 1}, {8, 127, 127}, {8, 128, -1}, {8, 255, -1}, {8, 256, 0}, {8, 257, 1}, {8, 383, 127}, {8, 384, -1},
    {8, -1, -1}, {8, -128, -1}, {8, -129, 127}, {8, -256, 0}, {8, -255, 1}, {8, MIN, 0}, {8, MAX, -1},
    {16, 127, 127}, {16, 128, 128}, {16, 255, 255}, {16, 256, 256}, {16, 32767, 32767}, {16, 32768, -1}, {16, 65535, -1},
    {16, 65536, 0}, {16, 65537, 1}, {16, -1, -1}, {16, -32768, -1}, {16, -32769, 32767}, {16, -65536, 0}, {16, MIN, 0}, {16, MAX, -1},
    {32, 32768, 32768}, {32, 65535, 65535}, {32, 65536, 65536}, {32, 99999, 99999}, {32, -1, -1}, {32, MIN, -1}, {32, 0, 0}
  };

  private static void lowestBits() {
    Checks.topic("29 put: a number becomes v (its lowest bits)");
    for (int[] row : BITS) {
      FountainTalk x = one(0, 0, 7);
      x.sheet(0, row[0], 1);
      due("put", x.put(0, 0, row[1]), 1);
      due("talks by " + row[1] + " in " + row[0] + " bits", x.talks(0), row[2] < 0 ? 0 : 1);
      due("TALK by " + row[1] + " in " + row[0] + " bits", x.fountainIs(0, 3), row[2] < 0 ? 7 : row[2]);
      noErrors(x);
    }
  }

  private static void everyNumberOfASheet() {
    Checks.topic("28 sheet: n numbers, all 0");
    for (int n : new int[] {1, 2, 8, 23, 24}) {
      FountainTalk x = one(0, 0, 7);
      x.sheet(1, 16, 24);
      for (int i = 0; i < 24; i++) x.put(1, i, 5);
      due("sheet", x.sheet(1, 16, n), 1);
      due("another", x.sheet(0, 16, 1), 1);
      for (int i = 0; i < n; i++) {
        x.put(0, 0, 9);
        due("move of number " + i, x.move(1, i, 0, 0, 1), 1);
        due("talks", x.talks(0), 1);
        due("number " + i, x.fountainIs(0, 3), 0);
        due("put number " + i, x.put(1, i, i + 1), 1);
        x.move(1, i, 0, 0, 1);
        x.talks(0);
        due("number " + i, x.fountainIs(0, 3), i + 1);
      }
      due("number " + n, x.put(1, n, 1), -1000000001);
      due("number -1", x.put(1, -1, 1), -1000000001);
      due("sheet once more", x.sheet(1, 16, n), 1);
      x.move(1, n - 1, 0, 0, 1);
      x.talks(0);
      due("all 0", x.fountainIs(0, 3), 0);
    }
  }

  /** SHEET 0 has three numbers 1, 2, 3, SHEET 1 five numbers 0, and there are eight FOUNTAINS. */
  private static FountainTalk twoSheets() {
    FountainTalk x = chain(8, 1);
    x.sheet(0, 8, 3);
    x.sheet(1, 8, 5);
    for (int i = 0; i < 3; i++) x.put(0, i, i + 1);
    return x;
  }

  private static void movesAtTheEnds() {
    Checks.topic("30 move: they stand there");
    for (int i = -1; i <= 4; i++) {
      for (int j = -1; j <= 6; j++) {
        for (int n = -1; n <= 6; n++) {
          boolean stand = i >= 0 && j >= 0 && n >= 0 && i + n <= 3 && j + n <= 5;
          FountainTalk x = twoSheets();
          due("move(0, " + i + ", 1, " + j + ", " + n + ")", x.move(0, i, 1, j, n), stand ? n : -1000000001);
          due("talks", x.talks(1), 5);
          for (int f = 0; f < 5; f++) {
            boolean moved = stand && f >= j && f < j + n;
            due("number " + f + " then", x.fountainIs(f, 3), moved ? 1 + i + f - j : 0);
          }
        }
      }
    }
  }

  private static void movesAsTheyAllWere() {
    Checks.topic("30 move: as they all were");
    for (int bits : new int[] {8, 16, 32}) {
      for (int i = 0; i <= 6; i++) {
        for (int j = 0; j <= 6; j++) {
          int n = 6 - Math.max(i, j);
          FountainTalk x = chain(8, 1);
          x.sheet(2, bits, 6);
          for (int at = 0; at < 6; at++) x.put(2, at, 11 * at);
          due("move", x.move(2, i, 2, j, n), n);
          due("talks", x.talks(2), 6);
          for (int f = 0; f < 6; f++) {
            boolean moved = f >= j && f < j + n;
            due("number " + f + " of " + i + " to " + j, x.fountainIs(f, 3), 11 * (moved ? i + f - j : f));
          }
        }
      }
    }
  }

  private static void talksUpTo() {
    Checks.topic("31 talks: how many, up to the first that is not 0 to 99999, or for which there is no FOUNTAIN");
    for (int many = 0; many <= 8; many++) {
      for (int n : new int[] {0, 1, 7, 8, 9, 24}) {
        FountainTalk x = chain(many, 1);
        x.sheet(0, 32, n);
        for (int i = 0; i < n; i++) x.put(0, i, 99999 - i);
        int due = Math.min(many, n);
        due(n + " numbers, " + many + " FOUNTAINS", x.talks(0), due);
        for (int f = 0; f < many; f++) due("TALK", x.fountainIs(f, 3), f < n ? 99999 - f : 0);
        noErrors(x);
      }
    }
    for (int odd : new int[] {-1, 100000, MIN, MAX}) {
      for (int at = 0; at < 8; at++) {
        FountainTalk x = chain(8, 1);
        x.sheet(0, 32, 8);
        for (int i = 0; i < 8; i++) x.put(0, i, i == at ? odd : 99999 * (i % 2));
        due(odd + " at " + at, x.talks(0), at);
        for (int f = 0; f < 8; f++) due("TALK of " + f, x.fountainIs(f, 3), f < at ? 99999 * (f % 2) : 0);
        noErrors(x);
      }
    }
  }

  private static void judgesUpTo() {
    Checks.topic("32 judge: how many are right, from the first on");
    for (int n : new int[] {0, 1, 8, 9, 10, 24}) {
      FountainTalk x = ninePipes();
      x.sheet(0, 8, n);
      for (int p = 0; p < n; p++) x.put(0, p, p + 1);
      due("all right of " + n, x.judge(0), Math.min(n, 9));
      for (int p = 0; p < Math.min(n, 9); p++) {
        x.put(0, p, p == 0 ? 2 : p);
        due("number " + p + " is wrong", x.judge(0), p);
        x.put(0, p, p + 1);
      }
      noErrors(x);
    }
    FountainTalk x = chain(2, 1);
    x.sheet(0, 8, 2);
    x.put(0, 0, 1);
    due("0 is not right where there is no PIPE", x.judge(0), 1);
    x.put(0, 0, 257);
    due("the lowest bits", x.judge(0), 1);
    x.sheet(1, 16, 1);
    x.put(1, 0, 257);
    due("of 16 bits", x.judge(1), 0);
    FountainTalk y = new FountainTalk();
    y.sheet(0, 8, 1);
    due("there are no PIPES", y.judge(0), 0);
    noErrors(y);
  }
}
