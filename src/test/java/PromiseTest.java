/** Promise by promise: ordinary inputs, the edges, and wrong inputs in the order in which they are asked. */
public final class PromiseTest {
  private static final int BEYOND = Checks.BEYOND;
  private static final int NONE = Checks.NONE;
  private static final int STATE = Checks.STATE;
  private static final int FULL = Checks.FULL;
  private static final int KIND = Checks.KIND;
  private static final int PARTED = Checks.PARTED;
  private static final int MIN = Integer.MIN_VALUE;
  private static final int MAX = Integer.MAX_VALUE;

  public static void main(String[] args) {
    fountainPromises();
    pipePromises();
    textPromises();
    hearingPromises();
    keyPromises();
    voicePromises();
    sheetPromises();
    imagePromises();
    Checks.end();
  }

  private static void fountainPromises() {
    newObject();
    fountain();
    fountainIs();
    become();
    as();
    says();
    goesOn();
  }

  private static void pipePromises() {
    pipe();
    pipeIs();
    turn();
    freeze();
  }

  private static void textPromises() {
    feed();
    text();
    faults();
    untell();
    law();
  }

  private static void hearingPromises() {
    hears();
    heard();
    let();
    days();
    loose();
    seed();
  }

  private static void keyPromises() {
    hush();
    reach();
    odds();
    fits();
    asSlowAsNow();
  }

  private static void voicePromises() {
    voice();
    parted();
    body();
  }

  private static void sheetPromises() {
    sheet();
    put();
    move();
    talks();
    judge();
  }

  private static void imagePromises() {
    image();
    restore();
    tell();
    check();
    count();
    told();
  }

  private static void due(String what, long got, long want) {
    Checks.due(what, got, want);
  }

  /** A SPOUT high up, a SPOUT below it, a SPOUT at the foot; PIPES 0-1 (2), 1-2 (3), 0-2 (9). */
  private static FountainTalk threeSpouts() {
    FountainTalk x = new FountainTalk();
    x.fountain(0, 9);
    x.fountain(0, 5);
    x.fountain(0, 1);
    x.pipe(0, 1, 2);
    x.pipe(1, 2, 3);
    x.pipe(0, 2, 9);
    return x;
  }

  /** One FOUNTAIN of each KIND, with m = 1 .. 7 and HEIGHT 9 .. 3. */
  private static FountainTalk sevenKinds() {
    FountainTalk x = new FountainTalk();
    for (int kind = 0; kind < 7; kind++) x.fountain(10 * kind + kind + 1, 9 - kind);
    return x;
  }

  private static void newObject() {
    Checks.topic("1 a new object");
    FountainTalk x = new FountainTalk();
    for (int what = 0; what <= 7; what++) due("count(" + what + ")", x.count(what), 0);
    due("z", x.count(8), 1);
    for (int k = 1; k <= 6; k++) due("told(" + k + ")", x.told(k), 0);
    due("law(0, 50)", x.law(0, 50, 0, 0), 50);
    due("law(1, 15)", x.law(1, 15, 0, 0), 15);
    due("untell(0)", x.untell(0), 0);
    due("untell(1)", x.untell(1), 0);
    due("check()", x.check(), 0);
    Checks.refused(x, NONE, "restore()", () -> x.restore());
    Checks.refused(x, NONE, "body(0)", () -> x.body(0));
    for (int sheet = 0; sheet < 4; sheet++) {
      int at = sheet;
      Checks.refused(x, NONE, "judge(" + sheet + ")", () -> x.judge(at));
    }
    due("the first FOUNTAIN", x.fountain(0, 0), 0);
    due("its TALK", x.fountainIs(0, 3), 0);
    due("image()", x.image(), 1);
    FountainTalk other = new FountainTalk();
    due("another object's FOUNTAINS", other.count(0), 0);
  }

  private static void fountain() {
    Checks.topic("2 fountain");
    FountainTalk x = new FountainTalk();
    Checks.refused(x, BEYOND, "km -1", () -> x.fountain(-1, 0));
    Checks.refused(x, BEYOND, "km 70", () -> x.fountain(70, 0));
    Checks.refused(x, BEYOND, "height -1", () -> x.fountain(0, -1));
    Checks.refused(x, BEYOND, "height 10", () -> x.fountain(0, 10));
    Checks.refused(x, BEYOND, "km MIN", () -> x.fountain(MIN, 0));
    Checks.refused(x, BEYOND, "height MAX", () -> x.fountain(0, MAX));
    due("the first", x.fountain(69, 9), 0);
    due("KIND", x.fountainIs(0, 0), 6);
    due("m", x.fountainIs(0, 1), 9);
    due("HEIGHT", x.fountainIs(0, 2), 9);
    for (int i = 1; i < 8; i++) due("number", x.fountain(0, 0), i);
    Checks.refused(x, FULL, "a ninth", () -> x.fountain(0, 0));
    Checks.refused(x, BEYOND, "a ninth, beyond", () -> x.fountain(70, 0));
    due("FOUNTAINS", x.count(0), 8);
  }

  private static void fountainIs() {
    Checks.topic("3 fountainIs");
    FountainTalk x = sevenKinds();
    for (int f = 0; f < 7; f++) {
      due("KIND", x.fountainIs(f, 0), f);
      due("m", x.fountainIs(f, 1), f + 1);
      due("HEIGHT", x.fountainIs(f, 2), 9 - f);
      due("TALK", x.fountainIs(f, 3), 0);
    }
    x.let(2, 40);
    due("TALK of the one that hears", x.fountainIs(2, 3), 40);
    Checks.refused(x, BEYOND, "fountain -1", () -> x.fountainIs(-1, 0));
    Checks.refused(x, BEYOND, "fountain 7", () -> x.fountainIs(7, 0));
    Checks.refused(x, BEYOND, "what 4", () -> x.fountainIs(0, 4));
    Checks.refused(x, BEYOND, "what -1", () -> x.fountainIs(0, -1));
    Checks.refused(x, BEYOND, "MIN", () -> x.fountainIs(MIN, MAX));
  }

  private static void become() {
    Checks.topic("4 become");
    FountainTalk x = sevenKinds();
    x.let(1, 33);
    due("was a LION", x.become(1, 58), 1);
    due("is an ECHO", x.fountainIs(1, 0), 5);
    due("m", x.fountainIs(1, 1), 8);
    due("HEIGHT stays", x.fountainIs(1, 2), 8);
    due("TALK stays", x.fountainIs(1, 3), 33);
    due("was an ECHO", x.become(1, 0), 5);
    due("is a SPOUT", x.fountainIs(1, 0), 0);
    due("was POLITE", x.become(6, 69), 6);
    Checks.refused(x, BEYOND, "fountain -1", () -> x.become(-1, 0));
    Checks.refused(x, BEYOND, "fountain 7", () -> x.become(7, 0));
    Checks.refused(x, BEYOND, "km 70", () -> x.become(0, 70));
    Checks.refused(x, BEYOND, "km -1", () -> x.become(0, -1));
  }

  private static void as() {
    Checks.topic("5 as");
    FountainTalk x = sevenKinds();
    int[] above = {-1, 0, 0, 0, 1, 2, 0};
    for (int f = 0; f < 7; f++) {
      for (int kind = 0; kind < 7; kind++) {
        int of = f;
        int a = kind;
        boolean is = kind == f || kind == above[f] || kind == 0;
        if (is) due("as(" + f + ", " + kind + ")", x.as(f, kind), f + 1);
        else Checks.refused(x, KIND, "as(" + f + ", " + kind + ")", () -> x.as(of, a));
      }
    }
    Checks.refused(x, BEYOND, "kind 7", () -> x.as(0, 7));
    Checks.refused(x, BEYOND, "kind -1", () -> x.as(0, -1));
    Checks.refused(x, BEYOND, "fountain 7", () -> x.as(7, 0));
    Checks.refused(x, BEYOND, "fountain -1", () -> x.as(-1, 1));
  }

  private static void says() {
    Checks.topic("6 says");
    FountainTalk x = sevenKinds();
    int[] adds = {11, 13, 19, 11, 11 + 5 + 5, 22 - 6, 1 + 7 % 3};
    for (int f = 0; f < 7; f++) due("says(" + f + ", 10)", x.says(f, 10), adds[f]);
    Checks.talk(x, 0, 0, 0, 0, 0, 13);
    due("an ECHO with TALK 13", x.says(5, 10), 22 - 6 + 3);
    due("SIZE 99 is held", x.says(0, 99), 99);
    x.become(6, 65);
    due("a POLITE one with 5", x.says(6, 10), 1 + 2);
    x.become(2, 29);
    due("a DOLPHIN below 1 is held", x.says(2, 1), 1);
    due("one that does not SAY ON", x.goesOn(3, 6), 0);
    due("says it all the same", x.says(3, 6), 7);
    Checks.text(x, 0, "z*100+h*10+k");
    due("by the TEXT, held", x.says(1, 10), 99);
    Checks.text(x, 0, "z+h*2-k");
    due("a GORGON by the TEXT", x.says(4, 10), 21 + 10 - 4);
    Checks.text(x, 0, "0-z");
    due("the TEXT has what the KIND ADDS, not held", x.says(2, 1), 5);
    x.freeze(9);
    due("FROST does not matter", x.says(6, 10), 1);
    Checks.refused(x, BEYOND, "fountain 7", () -> x.says(7, 1));
    Checks.refused(x, BEYOND, "fountain -1", () -> x.says(-1, 1));
    Checks.refused(x, BEYOND, "size 0", () -> x.says(0, 0));
    Checks.refused(x, BEYOND, "size 100", () -> x.says(0, 100));
  }

  private static void goesOn() {
    Checks.topic("7 goesOn");
    FountainTalk x = sevenKinds();
    x.freeze(5);
    int[] atFive = {1, 0, 1, 0, 0, 1, 1};
    int[] atSix = {1, 1, 1, 1, 1, 1, 1};
    for (int f = 0; f < 7; f++) {
      due("goesOn(" + f + ", 5)", x.goesOn(f, 5), f == 3 ? 1 : atFive[f]);
      due("goesOn(" + f + ", 6)", x.goesOn(f, 6), f == 3 ? 0 : atSix[f]);
    }
    x.become(3, 33);
    due("BASIN with 3: by 5", x.goesOn(3, 10), 0);
    due("BASIN with 3: not by 5", x.goesOn(3, 9), 1);
    x.become(3, 30);
    due("BASIN with 0: by 2", x.goesOn(3, 4), 0);
    due("BASIN with 0: not by 2", x.goesOn(3, 3), 1);
    x.freeze(9);
    due("GORGON with 5", x.goesOn(4, 9), 0);
    x.become(4, 46);
    due("GORGON with 6", x.goesOn(4, 9), 0);
    x.become(4, 47);
    due("GORGON with 7", x.goesOn(4, 9), 1);
    due("ECHO with 6, 65", x.goesOn(5, 65), 1);
    due("ECHO with 6, 66", x.goesOn(5, 66), 0);
    due("POLITE, FROST 9", x.goesOn(6, 1), 0);
    x.freeze(8);
    due("POLITE, FROST 8", x.goesOn(6, 1), 0);
    x.freeze(7);
    due("POLITE, FROST 7", x.goesOn(6, 1), 1);
    Checks.refused(x, BEYOND, "fountain 7", () -> x.goesOn(7, 1));
    Checks.refused(x, BEYOND, "fountain -1", () -> x.goesOn(-1, 1));
    Checks.refused(x, BEYOND, "size 0", () -> x.goesOn(0, 0));
    Checks.refused(x, BEYOND, "size 100", () -> x.goesOn(0, 100));
  }

  private static void pipe() {
    Checks.topic("8 pipe");
    FountainTalk x = new FountainTalk();
    x.fountain(0, 9);
    x.fountain(0, 5);
    x.fountain(0, 5);
    due("the first", x.pipe(0, 1, 9), 0);
    due("OPEN at first", x.pipeIs(0, 3), 1);
    Checks.refused(x, STATE, "no less HEIGHT", () -> x.pipe(1, 2, 1));
    Checks.refused(x, STATE, "up", () -> x.pipe(1, 0, 1));
    Checks.refused(x, STATE, "to itself", () -> x.pipe(0, 0, 1));
    Checks.refused(x, BEYOND, "up, delay 0", () -> x.pipe(1, 0, 0));
    Checks.refused(x, BEYOND, "delay 10", () -> x.pipe(0, 1, 10));
    Checks.refused(x, BEYOND, "from 3", () -> x.pipe(3, 1, 1));
    Checks.refused(x, BEYOND, "to 3", () -> x.pipe(0, 3, 1));
    Checks.refused(x, BEYOND, "from -1", () -> x.pipe(-1, 1, 1));
    Checks.refused(x, BEYOND, "to MIN", () -> x.pipe(0, MIN, 1));
    for (int i = 1; i < 9; i++) due("number", x.pipe(0, 2, 1), i);
    Checks.refused(x, FULL, "a tenth", () -> x.pipe(0, 1, 1));
    Checks.refused(x, STATE, "a tenth, up", () -> x.pipe(1, 0, 1));
    Checks.refused(x, BEYOND, "a tenth, beyond", () -> x.pipe(0, 1, 0));
    due("OPEN ones", x.count(4), 511);
  }

  private static void pipeIs() {
    Checks.topic("9 pipeIs");
    FountainTalk x = threeSpouts();
    int[][] dues = {{0, 1, 2, 1, 2}, {1, 2, 3, 1, 3}, {0, 2, 9, 1, 9}};
    for (int p = 0; p < 3; p++) {
      for (int what = 0; what < 5; what++) due("pipeIs(" + p + ", " + what + ")", x.pipeIs(p, what), dues[p][what]);
    }
    Checks.text(x, 1, "d*10+f*2-h");
    x.freeze(3);
    due("HOW SLOW, held", x.pipeIs(0, 4), 20);
    Checks.text(x, 1, "d+f*2+h");
    due("HOW SLOW by DELAY, FROST and fall", x.pipeIs(0, 4), 2 + 6 + 4);
    due("over the high fall", x.pipeIs(2, 4), 20);
    Checks.text(x, 1, "d-9");
    due("HOW SLOW, held from below", x.pipeIs(1, 4), 1);
    due("DELAY is as it was", x.pipeIs(1, 2), 3);
    x.turn(1, 0);
    due("shut", x.pipeIs(1, 3), 0);
    due("HOW SLOW a shut one is", x.pipeIs(1, 4), 1);
    Checks.refused(x, BEYOND, "pipe 3", () -> x.pipeIs(3, 0));
    Checks.refused(x, BEYOND, "pipe -1", () -> x.pipeIs(-1, 0));
    Checks.refused(x, BEYOND, "what 5", () -> x.pipeIs(0, 5));
    Checks.refused(x, BEYOND, "what -1", () -> x.pipeIs(0, -1));
  }

  private static void turn() {
    Checks.topic("10 turn");
    FountainTalk x = threeSpouts();
    due("OPEN, to be OPEN", x.turn(1, 1), 1);
    due("OPEN ones", x.count(4), 7);
    due("OPEN, to be shut", x.turn(1, 0), 1);
    due("OPEN ones", x.count(4), 5);
    due("shut, to be shut", x.turn(1, 0), 0);
    due("OPEN ones", x.count(4), 5);
    due("shut, to be OPEN", x.turn(1, 1), 0);
    due("OPEN ones", x.count(4), 7);
    Checks.refused(x, BEYOND, "pipe 3", () -> x.turn(3, 0));
    Checks.refused(x, BEYOND, "pipe -1", () -> x.turn(-1, 0));
    Checks.refused(x, BEYOND, "open 2", () -> x.turn(0, 2));
    Checks.refused(x, BEYOND, "open -1", () -> x.turn(0, -1));
  }

  private static void freeze() {
    Checks.topic("11 freeze");
    FountainTalk x = new FountainTalk();
    due("0 at first", x.freeze(9), 0);
    due("then 9", x.freeze(0), 9);
    due("then 0", x.freeze(4), 0);
    Checks.refused(x, BEYOND, "10", () -> x.freeze(10));
    Checks.refused(x, BEYOND, "-1", () -> x.freeze(-1));
    due("FROST", x.count(2), 4);
  }

  private static void feed() {
    Checks.topic("12 feed");
    FountainTalk x = new FountainTalk();
    due("the lowest bytes alone", x.feed(0x7a7a7a31L, 1), 1);
    due("the lowest first", x.feed(0x7a2bL, 2), 3);
    due("1+z", x.text(0), 1);
    due("1+z of 4", x.law(0, 4, 0, 0), 5);
    due("eight", x.feed(Checks.word("00+(z+1)") , 8), 8);
    Checks.refused(x, BEYOND, "n 0", () -> x.feed(0, 0));
    Checks.refused(x, BEYOND, "n 9", () -> x.feed(0, 9));
    Checks.refused(x, BEYOND, "n MIN", () -> x.feed(0, MIN));
    due("text", x.text(0), 1);
    due("of 4", x.law(0, 4, 0, 0), 5);
    for (int i = 1; i <= 7; i++) due("eight more", x.feed(-1L, 8), 8 * i);
    Checks.refused(x, FULL, "five above 56", () -> x.feed(0, 5));
    Checks.refused(x, FULL, "eight above 56", () -> x.feed(0, 8));
    due("four above 56", x.feed(0, 4), 60);
    Checks.refused(x, FULL, "one above 60", () -> x.feed(0, 1));
    Checks.refused(x, BEYOND, "none above 60", () -> x.feed(0, 0));
    due("the byte 255 is none of a TEXT", x.text(0), -10);
    due("THE TAPE is empty", x.count(5), 0);
  }

  private static void text() {
    Checks.topic("13 text");
    FountainTalk x = new FountainTalk();
    Checks.feed(x, "z+1");
    Checks.refused(x, BEYOND, "use 2", () -> x.text(2));
    Checks.refused(x, BEYOND, "use -1", () -> x.text(-1));
    due("THE TAPE stays", x.count(5), 3);
    due("text(0)", x.text(0), 1);
    due("THE TAPE is empty", x.count(5), 0);
    due("law", x.law(0, 8, 0, 0), 9);
    due("the other USE has none", x.law(1, 8, 0, 0), 8);
    due("in place of the one ahead", Checks.text(x, 0, "z-1"), 1);
    due("law", x.law(0, 8, 0, 0), 7);
    due("a FAULT", Checks.text(x, 0, "z-d"), -12);
    due("THE TAPE is empty, too", x.count(5), 0);
    due("the one ahead stays", x.law(0, 8, 0, 0), 7);
    for (int k = 1; k <= 6; k++) due("no ERROR: told(" + k + ")", x.told(k), k == 1 ? 2 : 0);
    due("USE 1 has names of its own", Checks.text(x, 1, "d+f+h"), 1);
    due("law", x.law(1, 1, 2, 3), 6);
    due("no z in USE 1", Checks.text(x, 1, "z"), -10);
    due("no k in USE 1", Checks.text(x, 1, "d+k"), -12);
    due("no f in USE 0", Checks.text(x, 0, "h+f"), -12);
    String sixty = "1+2-1+2-1+2-1+2-1+2-1+2-1+2-1+2-1+2-1+2-1+2-1+2-1+2-1+2-1+zz";
    due("sixty bytes, the last wrong", Checks.text(x, 0, sixty), -69);
    due("sixty bytes", Checks.text(x, 0, sixty.substring(0, 57) + "+z*"), -70);
    due("sixty bytes, right", Checks.text(x, 0, sixty.substring(0, 57) + "+12"), 1);
    due("their law", x.law(0, 5, 0, 0), 15 + 12);
    String deep = "!!!!!(";
    due("six open", Checks.text(x, 0, deep), -15);
    due("a row of ! is closed by its part", Checks.text(x, 0, "!!!!!z+!!!!!z"), 1);
    due("law", x.law(0, 5, 0, 0), 1);
    due("and with 0", x.law(0, 0, 0, 0), 2);
  }

  /** A TEXT, a FAULT: the place at which it is, or -1 where it is right. */
  private static final Object[][] FAULTS = {
    {"", 0}, {"z", -1}, {"k", -1}, {"h", -1}, {"0", -1}, {"0000", -1}, {"9999", -1}, {"12345", 4},
    {"x", 0}, {" ", 0}, {"z ", 1}, {" z", 0}, {"z+", 2}, {"+z", 0}, {"-1", 0}, {"z++z", 2}, {"z!", 1},
    {"z(", 1}, {"zz", 1}, {"2z", 1}, {"z2", 1}, {"()", 1}, {"(z", 2}, {"z)", 1}, {"(z)", -1}, {"(z))", 3},
    {"!", 1}, {"!z", -1}, {"!!z", -1}, {"!+", 1}, {"!(z)", -1}, {"((((((z))))))", 5}, {"(((((z)))))", -1},
    {"!!!!!z", -1}, {"!!!!!!z", 5}, {"(!(!(z))))", 9}, {"(!(!(z)))", -1}, {"(!(!(z))", 8}, {"(!(!(z)", 7}, {"(!(!((z", 5},
    {"!(!(!z", 6}, {"!(!(!!z", 5}, {"1<2", -1}, {"1<2<3", 3}, {"1<2=3", 3}, {"1=2>3", 3}, {"(1<2)<3", -1},
    {"1<2&2<3", -1}, {"1<2|2<3", -1}, {"1<2&2<3<4", 7}, {"1<(2<3)", -1}, {"1<(2<3<4)", 6}, {"z<", 2},
    {"z<=h", 2}, {"z&", 2}, {"z|", 2}, {"z&&h", 2}, {"z||h", 2}, {"z*h/k%2", -1}, {"z*", 2}, {"z/", 2},
    {"z%", 2}, {"z%%", 2}, {"z,h", 1}, {"z\u0001", 1}, {"\u00ff", 0}, {"z\u00ab", 1}, {"(z+1)(", 5},
    {"(z+1)5", 5}, {"1234z", 4}, {"1234+", 5}, {"(12345)", 5}, {"Z", 0}, {"z=h=", 3}, {"!z!", 2}
  };

  private static void faults() {
    Checks.topic("13 text: FAULT");
    FountainTalk x = new FountainTalk();
    for (Object[] row : FAULTS) {
      String text = (String) row[0];
      int fault = (Integer) row[1];
      due("text(0) of '" + text + "'", Checks.text(x, 0, text), fault < 0 ? 1 : -10 - fault);
    }
  }

  private static void untell() {
    Checks.topic("14 untell");
    FountainTalk x = new FountainTalk();
    Checks.text(x, 0, "z+9");
    Checks.text(x, 1, "d+9");
    Checks.refused(x, BEYOND, "use 2", () -> x.untell(2));
    Checks.refused(x, BEYOND, "use -1", () -> x.untell(-1));
    due("there was", x.untell(0), 1);
    due("there is none", x.untell(0), 0);
    due("law without it", x.law(0, 5, 0, 0), 5);
    due("the other stands", x.law(1, 5, 0, 0), 14);
    due("there was", x.untell(1), 1);
    due("law without it", x.law(1, 5, 0, 0), 5);
  }

  private static final Object[][] LAWS = {
    {"z+h*k", 14}, {"(z+h)*k", 20}, {"9+z-h-k", 4}, {"9-(z-h)", 10}, {"h*k+z", 14}, {"8/3*3", 6}, {"8%3*4", 8},
    {"7-2+1", 6}, {"z<h", 1}, {"z>h", 1}, {"h>z", 1}, {"z=2", 1}, {"z=3", 1}, {"2+(z=2)*5", 7}, {"2+(z=3)*5", 2},
    {"2+(z<h)*5", 7}, {"2+(z>h)*5", 2}, {"2+(h>z)*5", 7}, {"2+(z<2)", 2}, {"2+(2>z)", 2}, {"2+(z>2)", 2}, {"2+(3<z+2)*5", 7}, {"2+(9&4)", 3}, {"2+(9&0)", 2},
    {"2+(0|0)", 2}, {"2+(0|7)", 3}, {"2+(1|0&0)", 3}, {"2+((1|0)&0)", 2}, {"2+!0", 3}, {"2+!9", 2}, {"2+!!9", 3},
    {"!z+5", 5}, {"!(z+5)+5", 5}, {"5/0+4", 4}, {"5%0+4", 4}, {"0/0+4", 4}, {"(0-7)/2+9", 6}, {"(0-7)%2+9", 8},
    {"7/(0-2)+9", 6}, {"7%(0-2)+9", 10}, {"0012", 12}, {"0000+3", 3}, {"9999", 99}, {"0-5", 1}, {"2+(0-1&1)", 3},
    {"2+(1<2&2<1)", 2}, {"2+(1<2|2<1)", 3}, {"1=1=0", -13}, {"h", 3}, {"k", 4}, {"9999*9999*9999%10+19", 10},
    {"2+(3*z=z+4)", 3}, {"z*2>h&k>h", 1}, {"2+(z*2>h&k>h)", 3}, {"2+(z|h)", 3}, {"100-z%h-k", 94}
  };

  private static void law() {
    Checks.topic("15 law");
    FountainTalk x = new FountainTalk();
    Checks.refused(x, BEYOND, "use 2", () -> x.law(2, 0, 0, 0));
    Checks.refused(x, BEYOND, "use -1", () -> x.law(-1, 0, 0, 0));
    due("without a TEXT z, held", x.law(0, 100, 0, 0), 99);
    due("without a TEXT z", x.law(0, 99, 5, 5), 99);
    due("without a TEXT z, held", x.law(0, 0, 5, 5), 1);
    due("without a TEXT z, held", x.law(0, MIN, 5, 5), 1);
    due("without a TEXT d, held", x.law(1, 21, 5, 5), 20);
    due("without a TEXT d", x.law(1, 20, 5, 5), 20);
    due("without a TEXT d, held", x.law(1, 0, 5, 5), 1);
    due("without a TEXT d, held", x.law(1, MAX, 5, 5), 20);
    for (Object[] row : LAWS) {
      String text = (String) row[0];
      int want = (Integer) row[1];
      int told = Checks.text(x, 0, text);
      if (want < 0) due("text of " + text, told, want);
      else due(text + " of 2, 3, 4", x.law(0, 2, 3, 4), want);
    }
    Checks.text(x, 0, "z/h+5");
    due("the least by -1 wraps, held", x.law(0, MIN, -1, 0), 1);
    Checks.text(x, 0, "z%h+5");
    due("the rest of the least by -1", x.law(0, MIN, -1, 0), 5);
    Checks.text(x, 0, "z+h");
    due("a sum wraps", x.law(0, MAX, MIN + 10, 0), 9);
    due("a sum wraps below", x.law(0, MAX, 1, 0), 1);
    Checks.text(x, 0, "z*h");
    due("a product wraps", x.law(0, 65536, 65536, 0), 1);
    due("a product wraps", x.law(0, 1 << 30, 4, 0), 1);
    due("a product wraps to 8", x.law(0, (1 << 29) + 1, 8, 0), 8);
    Checks.text(x, 1, "d-f*h");
    due("USE 1", x.law(1, 20, 2, 4), 12);
    due("USE 1, held", x.law(1, 99, 2, 4), 20);
    due("USE 1, held", x.law(1, 1, 2, 4), 1);
  }

  private static void hears() {
    Checks.topic("16 hears");
    FountainTalk x = threeSpouts();
    due("from the top", x.hears(0, 1), 7);
    due("from the middle", x.hears(1, 1), 6);
    due("from the foot", x.hears(2, 99), 4);
    x.turn(0, 0);
    due("one PIPE shut", x.hears(0, 1), 5);
    x.turn(2, 0);
    due("two PIPES shut", x.hears(0, 1), 1);
    x.turn(0, 1);
    x.freeze(5);
    x.become(1, 10);
    due("a LION in FROST, 4 and 1", x.hears(0, 4), 3);
    due("a LION in FROST, 5 and 1", x.hears(0, 5), 7);
    due("only thought", x.fountainIs(0, 3), 0);
    x.become(0, 19);
    due("one that does not SAY ON", x.hears(0, 5), 1);
    Checks.refused(x, BEYOND, "from 3", () -> x.hears(3, 1));
    Checks.refused(x, BEYOND, "from -1", () -> x.hears(-1, 1));
    Checks.refused(x, BEYOND, "size 0", () -> x.hears(0, 0));
    Checks.refused(x, BEYOND, "size 100", () -> x.hears(0, 100));
  }

  private static void heard() {
    Checks.topic("17 heard");
    FountainTalk x = threeSpouts();
    due("at the begin: when", x.heard(0, 7, 0, 0), 0);
    due("at the begin: SIZE", x.heard(0, 7, 0, 1), 7);
    due("over 0-1: when", x.heard(0, 7, 1, 0), 2);
    due("over 0-1: SIZE", x.heard(0, 7, 1, 1), 8);
    due("first over 1: when", x.heard(0, 7, 2, 0), 5);
    due("first over 1: SIZE", x.heard(0, 7, 2, 1), 9);
    x.pipe(0, 2, 5);
    due("at once over two: when", x.heard(0, 7, 2, 0), 5);
    due("at once over two: the greatest SIZE", x.heard(0, 7, 2, 1), 9);
    x.become(1, 60);
    due("a POLITE one between: SIZE there", x.heard(0, 7, 1, 1), 8);
    due("at once over two: the greatest SIZE", x.heard(0, 7, 2, 1), 8);
    x.pipe(0, 2, 4);
    x.become(1, 19);
    due("a smaller SIZE comes first: when", x.heard(0, 7, 2, 0), 4);
    due("a smaller SIZE comes first: SIZE", x.heard(0, 7, 2, 1), 8);
    Checks.text(x, 1, "d*f+1");
    due("all as slow: when", x.heard(0, 7, 2, 0), 1);
    x.freeze(9);
    due("FROST makes it slow: when", x.heard(0, 7, 1, 0), 19);
    Checks.refused(x, NONE, "up the hill, when", () -> x.heard(2, 7, 0, 0));
    Checks.refused(x, NONE, "up the hill, SIZE", () -> x.heard(1, 7, 0, 1));
    Checks.refused(x, BEYOND, "from 3", () -> x.heard(3, 1, 0, 0));
    Checks.refused(x, BEYOND, "size 0", () -> x.heard(0, 0, 0, 0));
    Checks.refused(x, BEYOND, "size 100", () -> x.heard(0, 100, 0, 0));
    Checks.refused(x, BEYOND, "at 3", () -> x.heard(0, 1, 3, 0));
    Checks.refused(x, BEYOND, "at -1", () -> x.heard(0, 1, -1, 0));
    Checks.refused(x, BEYOND, "what 2, where it is not heard", () -> x.heard(2, 1, 0, 2));
    Checks.refused(x, BEYOND, "what -1", () -> x.heard(0, 1, 0, -1));
  }

  private static void let() {
    Checks.topic("18 let");
    FountainTalk x = threeSpouts();
    due("who hears", x.let(1, 10), 6);
    due("TALK of 0", x.fountainIs(0, 3), 0);
    due("TALK of 1", x.fountainIs(1, 3), 10);
    due("TALK of 2", x.fountainIs(2, 3), 11);
    due("once more", x.let(0, 1), 7);
    due("TALK of 0", x.fountainIs(0, 3), 1);
    due("TALK of 1", x.fountainIs(1, 3), 12);
    due("TALK of 2", x.fountainIs(2, 3), 14);
    due("no DAY goes by", x.count(3), 0);
    Checks.talk(x, 99998, 99999, 99996);
    x.let(0, 1);
    due("TALK of 0", x.fountainIs(0, 3), 99999);
    due("TALK of 1 is held", x.fountainIs(1, 3), 99999);
    due("TALK of 2", x.fountainIs(2, 3), 99999);
    x.become(0, 50);
    x.become(1, 50);
    Checks.talk(x, 4, 3, 0);
    due("TALK is as at the begin", x.let(0, 1), 7);
    due("an ECHO's rest of 4, then of 3", x.fountainIs(2, 3), 2 * (2 * 2 + 4 + 1) + 3);
    Checks.refused(x, BEYOND, "from 3", () -> x.let(3, 1));
    Checks.refused(x, BEYOND, "from -1", () -> x.let(-1, 1));
    Checks.refused(x, BEYOND, "size 0", () -> x.let(0, 0));
    Checks.refused(x, BEYOND, "size 100", () -> x.let(0, 100));
  }

  private static void days() {
    Checks.topic("19 days");
    FountainTalk x = threeSpouts();
    Checks.talk(x, 100, 7, 3);
    due("a DAY", x.days(1), 1);
    due("less by a fourth", x.fountainIs(0, 3), 75);
    due("less by a fourth, cut", x.fountainIs(1, 3), 6);
    due("a fourth of 3 is none", x.fountainIs(2, 3), 3);
    due("two DAYS", x.days(2), 3);
    due("100, 75, 57, 43", x.fountainIs(0, 3), 43);
    due("FROST stays", x.count(2), 0);
    Checks.refused(x, BEYOND, "0", () -> x.days(0));
    Checks.refused(x, BEYOND, "31", () -> x.days(31));
    Checks.refused(x, BEYOND, "MIN", () -> x.days(MIN));
    Checks.refused(x, BEYOND, "MAX", () -> x.days(MAX));
    for (int i = 0; i < 333; i++) x.days(30);
    due("DAY", x.count(3), 9993);
    Checks.refused(x, STATE, "above 9999", () -> x.days(7));
    Checks.refused(x, BEYOND, "31 above 9999", () -> x.days(31));
    due("9999", x.days(6), 9999);
    Checks.refused(x, STATE, "above 9999", () -> x.days(1));
  }

  private static void loose() {
    Checks.topic("20 loose");
    FountainTalk x = new FountainTalk();
    int z = 1 * 1103515245 + 12345;
    due("without FOUNTAINS nobody hears", x.loose(1), 0);
    due("one draw", x.count(8), z);
    due("FROST", x.count(2), (z >>> 8) % 10);
    due("DAY", x.count(3), 1);
    x.fountain(0, 9);
    x.fountain(0, 4);
    x.fountain(0, 1);
    x.pipe(0, 1, 1);
    int[] talk = {400, 0, 0};
    Checks.talk(x, talk);
    int who = 0;
    for (int i = 0; i < 5; i++) {
      z = z * 1103515245 + 12345;
      int frost = (z >>> 8) % 10;
      z = z * 1103515245 + 12345;
      int from = (z >>> 8) % 3;
      z = z * 1103515245 + 12345;
      int size = 1 + (z >>> 8) % 20;
      talk[from] += size;
      if (from == 0) talk[1] += size + 1;
      who |= from == 0 ? 3 : 1 << from;
      due("a DAY BY DRAWS", x.loose(1), from == 0 ? 3 : 1 << from);
      due("FROST", x.count(2), frost);
      due("z", x.count(8), z);
      for (int f = 0; f < 3; f++) due("TALK is no less", x.fountainIs(f, 3), talk[f]);
    }
    due("DAY", x.count(3), 6);
    FountainTalk one = new FountainTalk();
    one.fountain(0, 0);
    due("with one FOUNTAIN", one.loose(1), 1);
    due("three draws", one.count(8), thirdOfOne());
    FountainTalk y = threeSpouts();
    y.seed(-77);
    int each = 0;
    for (int i = 0; i < 20; i++) each |= y.loose(1);
    FountainTalk w = threeSpouts();
    w.seed(-77);
    due("who hears any of them", w.loose(20), each);
    due("z", w.count(8), y.count(8));
    for (int f = 0; f < 3; f++) due("TALK", w.fountainIs(f, 3), y.fountainIs(f, 3));
    Checks.refused(x, BEYOND, "0", () -> x.loose(0));
    Checks.refused(x, BEYOND, "21", () -> x.loose(21));
    Checks.refused(x, BEYOND, "-1", () -> x.loose(-1));
    for (int i = 0; i < 332; i++) x.days(30);
    x.days(25);
    due("DAY", x.count(3), 9991);
    Checks.refused(x, STATE, "above 9999", () -> x.loose(9));
    Checks.refused(x, BEYOND, "21 above 9999", () -> x.loose(21));
    x.loose(8);
    due("DAY", x.count(3), 9999);
    Checks.refused(x, STATE, "above 9999", () -> x.loose(1));
  }

  private static int thirdOfOne() {
    int z = 1;
    for (int i = 0; i < 3; i++) z = z * 1103515245 + 12345;
    return z;
  }

  private static void seed() {
    Checks.topic("21 seed");
    FountainTalk x = new FountainTalk();
    due("1 at first", x.seed(MIN), 1);
    due("any number", x.seed(-1000000001), MIN);
    due("one that looks like an ERROR", x.seed(5), -1000000001);
    due("is none", x.told(1), 0);
    due("z", x.count(8), 5);
  }

  private static void hush() {
    Checks.topic("22 hush");
    FountainTalk x = threeSpouts();
    due("two ways: how many", x.hush(0, 5, 2, 0), 2);
    due("two ways: the least set", x.hush(0, 5, 2, 1), 5);
    due("one way: how many", x.hush(0, 5, 1, 0), 1);
    due("one way: the set", x.hush(0, 5, 1, 1), 1);
    x.turn(2, 0);
    due("one way of two PIPES: how many", x.hush(0, 5, 2, 0), 1);
    due("one way of two PIPES: the least set", x.hush(0, 5, 2, 1), 1);
    due("not heard at all: how many", x.hush(2, 5, 0, 0), 0);
    due("not heard at all: the set", x.hush(2, 5, 0, 1), 0);
    due("only thought", x.count(4), 3);
    x.turn(2, 1);
    x.turn(0, 0);
    due("a shut one is not shut once more", x.hush(0, 5, 2, 1), 4);
    x.turn(0, 1);
    x.become(0, 10);
    x.freeze(5);
    due("a SIZE that does not go on", x.hush(0, 5, 2, 0), 0);
    due("a SIZE that does", x.hush(0, 6, 2, 0), 2);
    Checks.refused(x, STATE, "one and the same", () -> x.hush(1, 5, 1, 0));
    Checks.refused(x, BEYOND, "one and the same, what 2", () -> x.hush(1, 5, 1, 2));
    Checks.refused(x, BEYOND, "one and the same, size 0", () -> x.hush(1, 0, 1, 0));
    Checks.refused(x, BEYOND, "one and the same, 3", () -> x.hush(3, 5, 3, 0));
    Checks.refused(x, BEYOND, "from -1", () -> x.hush(-1, 5, 1, 0));
    Checks.refused(x, BEYOND, "at 3", () -> x.hush(0, 5, 3, 0));
    Checks.refused(x, BEYOND, "size 100", () -> x.hush(0, 100, 1, 0));
    Checks.refused(x, BEYOND, "what -1", () -> x.hush(0, 5, 1, -1));
    hushBySize();
  }

  /** Shutting a PIPE may let a later SAYING come first that goes on: only the sets tell. */
  private static void hushBySize() {
    FountainTalk x = new FountainTalk();
    x.fountain(0, 9);
    x.fountain(0, 7);
    x.fountain(30, 5);
    x.fountain(0, 1);
    x.pipe(0, 2, 3);
    x.pipe(0, 1, 1);
    x.pipe(1, 2, 1);
    x.pipe(2, 3, 1);
    due("by 1: 4 does not go on, 5 does", x.heard(0, 3, 2, 1), 5);
    due("heard at the foot", x.heard(0, 3, 3, 0), 3);
    due("one PIPE", x.hush(0, 3, 3, 0), 1);
    due("the slow way's SIZE is even: PIPE 1 is enough", x.hush(0, 3, 3, 1), 2);
  }

  private static void reach() {
    Checks.topic("23 reach");
    FountainTalk x = threeSpouts();
    due("heard already: how many", x.reach(0, 5, 2, 5, 0), 0);
    due("heard already: the set", x.reach(0, 5, 2, 5, 1), 0);
    due("at the begin, by 0", x.reach(1, 5, 1, 0, 0), 0);
    for (int p = 0; p < 3; p++) x.turn(p, 0);
    due("by 5: how many", x.reach(0, 5, 2, 5, 0), 2);
    due("by 5: the set", x.reach(0, 5, 2, 5, 1), 3);
    due("by 8: how many", x.reach(0, 5, 2, 8, 0), 2);
    due("by 9: how many", x.reach(0, 5, 2, 9, 0), 1);
    due("by 9: the set", x.reach(0, 5, 2, 9, 1), 4);
    due("by 99: the set", x.reach(0, 5, 2, 99, 1), 4);
    Checks.refused(x, NONE, "by 4", () -> x.reach(0, 5, 2, 4, 0));
    Checks.refused(x, NONE, "by 4, the set", () -> x.reach(0, 5, 2, 4, 1));
    Checks.refused(x, NONE, "up the hill", () -> x.reach(2, 5, 0, 99, 0));
    due("only thought", x.count(4), 0);
    x.turn(0, 1);
    due("with PIPE 0 OPEN", x.reach(0, 5, 2, 5, 1), 2);
    due("by 99: the least set of one", x.reach(0, 5, 2, 99, 1), 2);
    Checks.refused(x, BEYOND, "by 100", () -> x.reach(0, 5, 2, 100, 0));
    Checks.refused(x, BEYOND, "by -1, up the hill", () -> x.reach(2, 5, 0, -1, 0));
    Checks.refused(x, BEYOND, "what 2", () -> x.reach(0, 5, 2, 9, 2));
    Checks.refused(x, BEYOND, "what -1", () -> x.reach(0, 5, 2, 9, -1));
    Checks.refused(x, BEYOND, "from 3", () -> x.reach(3, 5, 2, 9, 0));
    Checks.refused(x, BEYOND, "at 3", () -> x.reach(0, 5, 3, 9, 0));
    Checks.refused(x, BEYOND, "size 0", () -> x.reach(0, 0, 2, 9, 0));
    Checks.refused(x, BEYOND, "size 100", () -> x.reach(0, 100, 2, 9, 0));
    reachBySize();
  }

  /** With all PIPES OPEN it is not heard, with some it is. */
  private static void reachBySize() {
    FountainTalk x = new FountainTalk();
    x.fountain(0, 9);
    x.fountain(0, 7);
    x.fountain(30, 5);
    x.fountain(0, 1);
    x.pipe(0, 2, 1);
    x.pipe(0, 1, 1);
    x.pipe(1, 2, 1);
    x.pipe(2, 3, 1);
    due("all are OPEN: 4 does not go on", x.hears(0, 3), 7);
    for (int p = 0; p < 4; p++) x.turn(p, 0);
    due("how many", x.reach(0, 3, 3, 3, 0), 3);
    due("the set", x.reach(0, 3, 3, 3, 1), 14);
    x.turn(0, 1);
    Checks.refused(x, NONE, "what is OPEN stays so", () -> x.reach(0, 3, 3, 99, 0));
  }

  private static void odds() {
    Checks.topic("24 odds");
    FountainTalk x = threeSpouts();
    due("at the foot: 3 of 3, above", x.odds(2, 5, 0), 1);
    due("at the foot: 3 of 3, below", x.odds(2, 5, 1), 1);
    due("in the middle: 2 of 3, above", x.odds(1, 5, 0), 2);
    due("in the middle: 2 of 3, below", x.odds(1, 5, 1), 3);
    due("at the top: 1 of 3, above", x.odds(0, 5, 0), 1);
    due("at the top: 1 of 3, below", x.odds(0, 5, 1), 3);
    x.fountain(10, 0);
    due("in the middle: 2 of 4, above", x.odds(1, 5, 0), 1);
    due("in the middle: 2 of 4, below", x.odds(1, 5, 1), 2);
    x.become(0, 10);
    x.become(1, 10);
    x.freeze(5);
    due("a small SIZE: 1 of 4", x.odds(2, 5, 1), 4);
    due("a greater SIZE: 3 of 4, above", x.odds(2, 6, 0), 3);
    Checks.refused(x, BEYOND, "at 4", () -> x.odds(4, 5, 0));
    Checks.refused(x, BEYOND, "at -1", () -> x.odds(-1, 5, 0));
    Checks.refused(x, BEYOND, "size 0", () -> x.odds(0, 0, 0));
    Checks.refused(x, BEYOND, "size 100", () -> x.odds(0, 100, 0));
    Checks.refused(x, BEYOND, "part 2", () -> x.odds(0, 5, 2));
    Checks.refused(x, BEYOND, "part -1", () -> x.odds(0, 5, -1));
  }

  private static void fits() {
    Checks.topic("25 fits");
    FountainTalk x = threeSpouts();
    x.become(0, 60);
    x.sheet(0, 8, 3);
    x.put(0, 1, 1);
    x.put(0, 2, 2);
    due("from 1 in SIZE 1: how many", x.fits(0, 0), 1);
    due("from 1 in SIZE 1: the least", x.fits(0, 1), 101);
    x.sheet(1, 16, 3);
    x.put(1, 2, 20);
    due("from 2 in SIZE 20", x.fits(1, 1), 220);
    x.put(1, 2, 21);
    due("SIZE 21 is not asked", x.fits(1, 0), 0);
    Checks.refused(x, NONE, "there is none", () -> x.fits(1, 1));
    x.sheet(1, 32, 1);
    due("a short SHEET: all that do not start at 0", x.fits(1, 0), 40);
    due("the least", x.fits(1, 1), 101);
    x.sheet(1, 32, 0);
    due("an empty SHEET fits all", x.fits(1, 0), 60);
    due("the least", x.fits(1, 1), 1);
    x.sheet(1, 32, 24);
    x.put(1, 0, 20);
    x.put(1, 1, 1);
    x.put(1, 2, 2);
    due("0 where there is no FOUNTAIN: is not so", x.fits(1, 0), 0);
    Checks.refused(x, NONE, "0 where there is no FOUNTAIN: there is none", () -> x.fits(1, 1));
    x.put(1, 23, 1);
    due("1 where there is no FOUNTAIN", x.fits(1, 0), 0);
    x.sheet(1, 32, 4);
    x.put(1, 0, 20);
    x.put(1, 1, 1);
    x.put(1, 2, 2);
    due("one number too many", x.fits(1, 0), 0);
    x.fountain(0, 0);
    due("a FOUNTAIN for it, that does not hear it", x.fits(1, 1), 20);
    x.become(0, 0);
    x.become(1, 60);
    x.turn(2, 0);
    x.sheet(2, 32, 3);
    x.put(2, 2, 1);
    x.put(2, 1, 99);
    due("none in such SIZES", x.fits(2, 0), 0);
    Checks.refused(x, NONE, "missing", () -> x.fits(3, 0));
    Checks.refused(x, BEYOND, "missing, what 2", () -> x.fits(3, 2));
    Checks.refused(x, BEYOND, "what -1", () -> x.fits(0, -1));
    Checks.refused(x, BEYOND, "sheet 4", () -> x.fits(4, 0));
    Checks.refused(x, BEYOND, "sheet -1", () -> x.fits(-1, 0));
    FountainTalk y = new FountainTalk();
    y.sheet(0, 8, 0);
    due("without FOUNTAINS", y.fits(0, 0), 0);
    y.sheet(1, 8, 1);
    due("without FOUNTAINS, a number", y.fits(1, 0), 0);
    Checks.refused(y, NONE, "without FOUNTAINS there is none", () -> y.fits(0, 1));
  }

  /** To the BASIN 3 comes at once, which does not go on, or 4 by way of 1, which does: FROST tells what is first. */
  private static FountainTalk twoWays(int frost) {
    FountainTalk x = new FountainTalk();
    x.fountain(0, 9);
    x.fountain(10, 7);
    x.fountain(31, 3);
    x.fountain(0, 1);
    x.pipe(0, 2, 2);
    x.pipe(0, 1, 1);
    x.pipe(1, 2, 2);
    x.pipe(2, 3, 1);
    Checks.text(x, 1, "d+(h=6)*f*2");
    due("with no FROST", x.hears(0, 2), 7);
    x.freeze(frost);
    return x;
  }

  /** Each act asks HOW SLOW the PIPES are now, whatever was thought of ahead of it. */
  private static void asSlowAsNow() {
    Checks.topic("16 to 25: HOW SLOW now");
    due("hush", twoWays(1).hush(0, 2, 3, 0), 1);
    due("reach", twoWays(1).reach(0, 2, 3, 4, 0), 0);
    due("odds, from 0, 2 and 3", twoWays(1).odds(3, 2, 0), 3);
    due("hears", twoWays(1).hears(0, 2), 15);
    due("heard", twoWays(1).heard(0, 2, 2, 0), 3);
    due("let", twoWays(1).let(0, 2), 15);
    FountainTalk x = twoWays(1);
    x.sheet(0, 8, 4);
    x.put(0, 0, 2);
    x.put(0, 1, 3);
    x.put(0, 2, 4);
    x.put(0, 3, 5);
    due("fits", x.fits(0, 0), 1);
  }

  private static void trace(FountainTalk x, int... bodies) {
    due("BODIES", x.count(7), bodies.length);
    for (int i = 0; i < bodies.length; i++) due("body(" + i + ")", x.body(i), bodies[i]);
    Checks.refused(x, NONE, "body " + bodies.length, () -> x.body(bodies.length));
  }

  /** Of sevenKinds: k is 0 .. 6 and m is k + 1, so m - k is 1. */
  private static void voice() {
    Checks.topic("26 voice");
    FountainTalk x = sevenKinds();
    due("SPOUT splashes", x.voice(0, 0, 7), 7);
    trace(x, 10);
    due("SPOUT lisps", x.voice(0, 1, 7), 14);
    trace(x, 11, 10);
    due("SPOUT drips", x.voice(0, 2, 7), 13);
    trace(x, 12, 11, 10);
    due("SPOUT parts", x.voice(0, 3, 7), 7);
    trace(x, 13);
    due("LION splashes", x.voice(1, 0, 7), 4);
    trace(x, 20, 10);
    due("LION lisps", x.voice(1, 1, 7), 8);
    trace(x, 11, 20, 10);
    due("LION drips", x.voice(1, 2, 7), 6);
    trace(x, 12, 11, 20, 10);
    due("LION parts", x.voice(1, 3, 7), 7 + (1 + 1 - 4) * 2);
    trace(x, 21, 13, 11, 20, 10);
    due("DOLPHIN splashes", x.voice(2, 0, 7), 9);
    due("DOLPHIN lisps", x.voice(2, 1, 7), -18);
    trace(x, 30, 11, 10);
    due("DOLPHIN drips", x.voice(2, 2, 7), -18 - 3);
    trace(x, 12, 30, 11, 10);
    due("BASIN drips", x.voice(3, 2, -7), (-3 + 3) * 2 - 4);
    trace(x, 40, 12, 11, 10);
    due("BASIN lisps", x.voice(3, 1, 7), 20);
    due("GORGON splashes", x.voice(4, 0, 7), (7 + 4 - 4) * 3);
    trace(x, 50, 20, 10);
    due("GORGON drips", x.voice(4, 2, 7), (21 * 2 - 5) ^ 4);
    trace(x, 51, 12, 11, 50, 20, 10);
    due("GORGON parts", x.voice(4, 3, 7), 7 + (1 + 4 - 4) * 3 * 2);
    trace(x, 21, 13, 11, 50, 20, 10);
    due("ECHO lisps", x.voice(5, 1, 7), -(8 + 5) * 2);
    trace(x, 60, 30, 11, 10);
    due("ECHO drips", x.voice(5, 2, 7), -26 - 6);
    trace(x, 12, 60, 30, 11, 10);
    due("POLITE splashes", x.voice(6, 0, 7), 9);
    trace(x, 70);
    due("POLITE lisps", x.voice(6, 1, 7), 18 + 7);
    trace(x, 71, 11, 70);
    due("POLITE drips", x.voice(6, 2, 7), 25 - 7);
    trace(x, 12, 71, 11, 70);
    for (int f = 2; f < 7; f += f == 3 ? 2 : 1) {
      if (f != 4) due("parts as SPOUT", x.voice(f, 3, 7), 7);
      if (f != 4) trace(x, 13);
    }
    due("a sum wraps", x.voice(1, 0, MIN), MAX - 2);
    due("a product wraps", x.voice(0, 1, MAX), -2);
    x.become(1, 0);
    due("the least by -1 wraps", x.voice(1, 3, MIN), MIN);
    x.become(4, 12);
    due("parts by -2, cut", x.voice(4, 3, 7), -3 + 2);
    due("TALK is not touched", x.fountainIs(0, 3), 0);
    due("any number", x.voice(0, 0, -1000000001), -1000000001);
    due("no ERROR", x.told(1), 0);
    Checks.refused(x, BEYOND, "fountain 7", () -> x.voice(7, 0, 0));
    Checks.refused(x, BEYOND, "fountain -1", () -> x.voice(-1, 0, 0));
    Checks.refused(x, BEYOND, "voice 4", () -> x.voice(0, 4, 0));
    Checks.refused(x, BEYOND, "voice -1", () -> x.voice(0, -1, 0));
  }

  private static void parted() {
    Checks.topic("26 voice: PARTED");
    FountainTalk x = sevenKinds();
    due("SPOUT lisps", x.voice(0, 1, 7), 14);
    x.become(0, 0);
    parts(x, 0, 7);
    trace(x, 13);
    parts(x, 0, MIN);
    Checks.refused(x, NONE, "the BODIES of the one ahead are gone", () -> x.body(1));
    x.become(1, 11);
    parts(x, 1, 7);
    trace(x, 21, 13);
    x.become(4, 44);
    parts(x, 4, 0);
    trace(x, 21, 13);
    Checks.refused(x, BEYOND, "another voice of it", () -> x.voice(4, 4, 0));
    trace(x, 21, 13);
    due("its other VOICES stand", x.voice(4, 0, 7), 21);
    trace(x, 50, 20, 10);
  }

  /** PARTED, which changes nothing but what told(PARTED) tells and THE TRACE. */
  private static void parts(FountainTalk x, int fountain, int number) {
    // so that the one ahead is of the same BODIES, and nothing else may be another
    x.voice(fountain, 3, number);
    Checks.refused(x, PARTED, "voice(" + fountain + ", 3, " + number + ")", () -> x.voice(fountain, 3, number));
  }

  private static void body() {
    Checks.topic("27 body");
    FountainTalk x = sevenKinds();
    Checks.refused(x, NONE, "no voice() yet", () -> x.body(0));
    x.voice(4, 2, 7);
    due("the first", x.body(0), 51);
    due("the last", x.body(5), 10);
    Checks.refused(x, NONE, "6", () -> x.body(6));
    Checks.refused(x, NONE, "-1", () -> x.body(-1));
    Checks.refused(x, NONE, "MAX", () -> x.body(MAX));
    x.voice(0, 0, 1);
    due("of the latest voice()", x.body(0), 10);
    Checks.refused(x, NONE, "what was ahead", () -> x.body(1));
  }

  private static void sheet() {
    Checks.topic("28 sheet");
    FountainTalk x = threeSpouts();
    due("8 bits", x.sheet(0, 8, 24), 1);
    due("16 bits", x.sheet(1, 16, 0), 1);
    due("32 bits", x.sheet(3, 32, 5), 1);
    x.put(0, 23, 5);
    Checks.refused(x, BEYOND, "put beyond n", () -> x.put(3, 5, 1));
    due("made anew", x.sheet(0, 8, 24), 1);
    x.sheet(2, 8, 1);
    x.put(2, 0, 9);
    due("all 0: to another", x.move(0, 23, 2, 0, 1), 1);
    due("no TALK", x.talks(2), 1);
    due("is 0", x.fountainIs(0, 3), 0);
    Checks.refused(x, STATE, "n -1", () -> x.sheet(0, 8, -1));
    Checks.refused(x, STATE, "n MIN", () -> x.sheet(0, 32, MIN));
    Checks.refused(x, BEYOND, "n 25", () -> x.sheet(0, 8, 25));
    Checks.refused(x, BEYOND, "bits 7", () -> x.sheet(0, 7, 1));
    Checks.refused(x, BEYOND, "bits 64, n -1", () -> x.sheet(0, 64, -1));
    Checks.refused(x, BEYOND, "bits -8", () -> x.sheet(0, -8, 1));
    Checks.refused(x, BEYOND, "sheet 4", () -> x.sheet(4, 8, 1));
    Checks.refused(x, BEYOND, "sheet -1, n -1", () -> x.sheet(-1, 8, -1));
    Checks.refused(x, BEYOND, "sheet 4, missing", () -> x.sheet(4, 0, 1));
    due("refused: it stands as it was", x.put(0, 23, 1), 1);
    due("missing, whatever n", x.sheet(0, 0, -5), 1);
    due("missing, whatever n", x.sheet(0, 0, 99), 1);
    Checks.refused(x, NONE, "missing", () -> x.put(0, 0, 1));
    due("the others stand", x.put(3, 4, 1), 1);
  }

  private static void put() {
    Checks.topic("29 put");
    FountainTalk x = threeSpouts();
    x.sheet(0, 8, 3);
    x.sheet(1, 16, 3);
    x.sheet(2, 32, 3);
    due("8 bits, 127", x.put(0, 0, 127), 1);
    due("8 bits, 256 + 100", x.put(0, 1, 356), 1);
    due("8 bits, 128", x.put(0, 2, 128), 1);
    due("128 is below 0 in 8 bits", x.talks(0), 2);
    due("127", x.fountainIs(0, 3), 127);
    due("the lowest bits", x.fountainIs(1, 3), 100);
    x.put(1, 0, 32767);
    x.put(1, 1, 65536 + 9);
    x.put(1, 2, 32768);
    due("32768 is below 0 in 16 bits", x.talks(1), 2);
    due("32767", x.fountainIs(0, 3), 32767);
    due("the lowest bits", x.fountainIs(1, 3), 9);
    x.put(2, 0, 65535);
    x.put(2, 1, 99999);
    x.put(2, 2, MIN);
    due("32 bits", x.talks(2), 2);
    due("65535", x.fountainIs(0, 3), 65535);
    due("99999", x.fountainIs(1, 3), 99999);
    Checks.refused(x, BEYOND, "number 3", () -> x.put(0, 3, 1));
    Checks.refused(x, BEYOND, "number -1", () -> x.put(0, -1, 1));
    Checks.refused(x, BEYOND, "number MAX", () -> x.put(0, MAX, 1));
    Checks.refused(x, NONE, "missing, number -1", () -> x.put(3, -1, 1));
    Checks.refused(x, BEYOND, "sheet 4", () -> x.put(4, 0, 1));
    Checks.refused(x, BEYOND, "sheet -1", () -> x.put(-1, 0, 1));
  }

  /** Numbers of a SHEET, as eight FOUNTAINS tell them by TALK. */
  private static void numbers(FountainTalk x, int sheet, int... want) {
    due("talks(" + sheet + ")", x.talks(sheet), want.length);
    for (int i = 0; i < want.length; i++) due("number " + i + " of " + sheet, x.fountainIs(i, 3), want[i]);
  }

  private static void move() {
    Checks.topic("30 move");
    FountainTalk x = new FountainTalk();
    for (int i = 0; i < 8; i++) x.fountain(0, 0);
    x.sheet(0, 8, 5);
    x.sheet(1, 8, 3);
    x.sheet(2, 16, 5);
    for (int i = 0; i < 5; i++) x.put(0, i, i + 1);
    due("to another", x.move(0, 3, 1, 1, 2), 2);
    numbers(x, 1, 0, 4, 5);
    due("up in the same, as they were", x.move(0, 0, 0, 1, 4), 4);
    numbers(x, 0, 1, 1, 2, 3, 4);
    due("down in the same, as they were", x.move(0, 1, 0, 0, 4), 4);
    numbers(x, 0, 1, 2, 3, 4, 4);
    due("none", x.move(0, 5, 1, 3, 0), 0);
    Checks.refused(x, BEYOND, "none from beyond the end", () -> x.move(0, 6, 1, 0, 0));
    Checks.refused(x, BEYOND, "none to beyond the end", () -> x.move(0, 0, 1, 4, 0));
    Checks.refused(x, BEYOND, "one too many there", () -> x.move(0, 0, 1, 2, 2));
    Checks.refused(x, BEYOND, "one too many here", () -> x.move(1, 2, 0, 0, 2));
    Checks.refused(x, BEYOND, "n -1", () -> x.move(0, 0, 1, 0, -1));
    Checks.refused(x, BEYOND, "i -1", () -> x.move(0, -1, 1, 0, 1));
    Checks.refused(x, BEYOND, "j -1", () -> x.move(0, 0, 1, -1, 1));
    Checks.refused(x, BEYOND, "n MAX", () -> x.move(0, 1, 1, 1, MAX));
    Checks.refused(x, BEYOND, "i MAX, n MAX", () -> x.move(0, MAX, 1, 0, MAX));
    Checks.refused(x, KIND, "8 to 16, n -1", () -> x.move(0, 0, 2, 0, -1));
    Checks.refused(x, NONE, "to a missing one, n -1", () -> x.move(0, 0, 3, 0, -1));
    Checks.refused(x, NONE, "from a missing one", () -> x.move(3, 0, 0, 0, 1));
    Checks.refused(x, BEYOND, "from a missing one to 4", () -> x.move(3, 0, 4, 0, 1));
    Checks.refused(x, BEYOND, "from -1 to a missing one", () -> x.move(-1, 0, 3, 0, 1));
    numbers(x, 0, 1, 2, 3, 4, 4);
    numbers(x, 1, 0, 4, 5);
  }

  private static void talks() {
    Checks.topic("31 talks");
    FountainTalk x = threeSpouts();
    x.sheet(0, 32, 5);
    x.put(0, 0, 99999);
    x.put(0, 1, 0);
    x.put(0, 2, 7);
    due("up to the last FOUNTAIN", x.talks(0), 3);
    due("TALK of 0", x.fountainIs(0, 3), 99999);
    due("TALK of 2", x.fountainIs(2, 3), 7);
    x.put(0, 0, 5);
    x.put(0, 1, 100000);
    x.put(0, 2, 8);
    due("up to 100000", x.talks(0), 1);
    due("TALK of 0", x.fountainIs(0, 3), 5);
    due("TALK of 1 stays", x.fountainIs(1, 3), 0);
    due("TALK of 2 stays", x.fountainIs(2, 3), 7);
    x.put(0, 0, -1);
    due("up to -1", x.talks(0), 0);
    for (int k = 1; k <= 6; k++) due("no ERROR", x.told(k), 0);
    x.sheet(0, 8, 2);
    due("a short SHEET", x.talks(0), 2);
    due("TALK of 2 stays", x.fountainIs(2, 3), 7);
    Checks.refused(x, NONE, "missing", () -> x.talks(1));
    Checks.refused(x, BEYOND, "sheet 4", () -> x.talks(4));
    Checks.refused(x, BEYOND, "sheet -1", () -> x.talks(-1));
  }

  private static void judge() {
    Checks.topic("32 judge");
    FountainTalk x = threeSpouts();
    x.sheet(0, 8, 5);
    due("none is right", x.judge(0), 0);
    x.put(0, 0, 2);
    x.put(0, 2, 9);
    due("one, and a later one", x.judge(0), 1);
    x.put(0, 1, 3);
    due("three, then there are no PIPES", x.judge(0), 3);
    x.turn(0, 0);
    due("a shut one, too", x.judge(0), 3);
    Checks.text(x, 1, "d+f");
    due("with no FROST", x.judge(0), 3);
    x.freeze(1);
    due("with FROST", x.judge(0), 0);
    x.put(0, 0, 3);
    due("now", x.judge(0), 1);
    x.sheet(1, 32, 0);
    due("an empty one", x.judge(1), 0);
    Checks.refused(x, NONE, "missing", () -> x.judge(2));
    Checks.refused(x, BEYOND, "sheet 4", () -> x.judge(4));
    Checks.refused(x, BEYOND, "sheet -1", () -> x.judge(-1));
  }

  /** A city in which all that an IMAGE keeps is another than at first. */
  private static FountainTalk fullCity() {
    FountainTalk x = threeSpouts();
    x.become(1, 23);
    x.turn(1, 0);
    x.freeze(4);
    x.let(0, 9);
    x.days(3);
    x.seed(99);
    Checks.text(x, 0, "z+2");
    Checks.text(x, 1, "d+1");
    Checks.feed(x, "z*h");
    x.tell(x.fountainIs(0, 3));
    x.tell(12);
    return x;
  }

  private static void image() {
    Checks.topic("33 image");
    FountainTalk x = fullCity();
    due("once", x.image(), 1);
    x.freeze(6);
    due("twice", x.image(), 2);
    x.freeze(7);
    due("DAY", x.restore(), 3);
    due("the latest one", x.count(2), 6);
    due("how often is not taken back", x.image(), 3);
    due("only kept", x.count(6), 2);
  }

  private static void restore() {
    Checks.topic("34 restore");
    FountainTalk x = fullCity();
    Checks.refused(x, NONE, "there is none", () -> x.restore());
    java.util.List<Integer> before = Cities.seen(x);
    x.image();
    for (int times = 0; times < 2; times++) {
      x.fountain(15, 0);
      x.become(0, 11);
      x.pipe(0, 3, 1);
      x.turn(1, 1);
      x.turn(0, 0);
      x.freeze(9);
      x.let(0, 50);
      x.days(5);
      x.seed(3);
      x.text(0);
      x.untell(1);
      Checks.feed(x, "123456");
      x.tell(8);
      x.check();
      x.tell(9);
      x.tell(9);
      x.tell(9);
      due("DAY", x.restore(), 3);
      Checks.isTrue("all is as the IMAGE has it", before.equals(Cities.seen(x)));
      due("THE TAPE, too", x.text(0), 1);
      due("is z*h", x.law(0, 4, 5, 0), 20);
      due("the numbers that wait, too", x.check(), 2);
    }
    x.restore();
    notKept(x);
  }

  private static void notKept(FountainTalk x) {
    x.sheet(0, 8, 2);
    x.put(0, 0, 5);
    x.voice(1, 1, 1);
    int bodies = x.count(7);
    int none = x.told(NONE);
    due("DAY", x.restore(), 3);
    due("SHEETS stay", x.talks(0), 2);
    due("with their numbers", x.fountainIs(0, 3), 5);
    due("THE TRACE stays", x.count(7), bodies);
    due("and its BODIES", x.body(0), 30);
    due("what told() tells stays", x.told(NONE), none);
  }

  private static void tell() {
    Checks.topic("35 tell");
    FountainTalk x = new FountainTalk();
    for (int i = 1; i <= 24; i++) due("tell", x.tell(MIN + i), i);
    Checks.refused(x, FULL, "a 25th", () -> x.tell(0));
    due("24 wait", x.count(6), 24);
    x.check();
    due("then anew", x.tell(0), 1);
  }

  private static void check() {
    Checks.topic("36 check");
    FountainTalk x = threeSpouts();
    Checks.talk(x, 10, 20, 30);
    due("none wait", x.check(), 0);
    x.tell(10);
    x.tell(20);
    due("two are so", x.check(), 0);
    due("none wait then", x.count(6), 0);
    x.tell(10);
    x.tell(20);
    x.tell(30);
    due("three are so", x.check(), 0);
    x.tell(10);
    x.tell(21);
    x.tell(31);
    due("the second is not so", x.check(), 2);
    due("none wait then", x.count(6), 0);
    x.tell(0);
    due("the first is not so", x.check(), 1);
    x.tell(10);
    x.tell(20);
    x.tell(30);
    x.tell(0);
    due("there is no fourth FOUNTAIN", x.check(), 4);
    for (int i = 0; i < 24; i++) x.tell(i < 3 ? 10 * i + 10 : 0);
    due("24 that wait", x.check(), 4);
    for (int k = 1; k <= 6; k++) due("no ERROR", x.told(k), 0);
  }

  private static void count() {
    Checks.topic("37 count");
    FountainTalk x = fullCity();
    x.voice(0, 2, 1);
    int[] dues = {3, 3, 4, 3, 5, 3, 2, 3, 99};
    for (int what = 0; what <= 8; what++) due("count(" + what + ")", x.count(what), dues[what]);
    x.seed(-1000000002);
    due("z, any number", x.count(8), -1000000002);
    due("no ERROR", x.told(NONE), 0);
    Checks.refused(x, BEYOND, "9", () -> x.count(9));
    Checks.refused(x, BEYOND, "-1", () -> x.count(-1));
    Checks.refused(x, BEYOND, "MIN", () -> x.count(MIN));
  }

  private static void told() {
    Checks.topic("38 told");
    FountainTalk x = threeSpouts();
    x.days(0);
    x.days(0);
    x.body(0);
    x.pipe(0, 0, 1);
    x.pipe(0, 0, 1);
    x.pipe(0, 0, 1);
    for (int i = 0; i < 28; i++) x.tell(0);
    x.as(0, 1);
    x.become(2, 2);
    x.voice(2, 3, 1);
    x.voice(2, 3, 1);
    int[] dues = {0, 2, 1, 3, 4, 1, 2};
    for (int k = 1; k <= 6; k++) due("told(" + k + ")", x.told(k), dues[k]);
    due("told(0)", x.told(0), -1000000001);
    due("counted, too", x.told(1), 3);
    due("told(7)", x.told(7), -1000000001);
    due("told(-1)", x.told(-1), -1000000001);
    due("told(MIN)", x.told(MIN), -1000000001);
    due("counted, too", x.told(1), 6);
    for (int k = 2; k <= 6; k++) due("told(" + k + ")", x.told(k), dues[k]);
  }
}
