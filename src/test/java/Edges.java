/**
 * What the edge tests share. Sentence by sentence of 'Terms' and of the promises they ask what is the last that is
 * taken, what is held, what is empty, what is full, and where an int wraps around. What is refused, and that
 * nothing comes of it, stands in RefusalTest.
 */
abstract class Edges {
  static final int LOW = Checks.LOW;
  static final int MIN = Integer.MIN_VALUE;
  static final int MAX = Integer.MAX_VALUE;

  static void due(String what, long got, long want) {
    Checks.due(what, got, want);
  }

  static void noErrors(FountainTalk x) {
    for (int k = 1; k <= 6; k++) due("no ERROR: told(" + k + ")", x.told(k), 0);
  }

  static FountainTalk one(int km, int height) {
    FountainTalk x = new FountainTalk();
    due("fountain(" + km + ", " + height + ")", x.fountain(km, height), 0);
    return x;
  }

  static FountainTalk one(int km, int height, int talk) {
    FountainTalk x = one(km, height);
    Checks.talk(x, talk);
    return x;
  }

  /** SPOUTS of HEIGHT 9 down to 2, each with a PIPE to the next. */
  static FountainTalk chain(int many, int delay) {
    FountainTalk x = new FountainTalk();
    for (int f = 0; f < many; f++) x.fountain(0, 9 - f);
    for (int f = 1; f < many; f++) x.pipe(f - 1, f, delay);
    return x;
  }

  /** A SPOUT above another, and nine PIPES from the one to the other. */
  static FountainTalk ninePipes() {
    FountainTalk x = chain(2, 1);
    for (int p = 1; p < 9; p++) due("pipe", x.pipe(0, 1, p + 1), p);
    return x;
  }
}
