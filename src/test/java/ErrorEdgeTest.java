import java.util.List;

/** ERRORS, the 512th call, what is empty and what is full, and IMAGES of both. */
public final class ErrorEdgeTest extends Edges {
  public static void main(String[] args) {
    termsOfErrors();
    whatIsEmpty();
    whatIsFull();
    imagesAtTheEdge();
    Checks.end();
  }

  // ---- ERRORS

  private static void termsOfErrors() {
    eachErrorIsItsNumber();
    anyNumberIsNoError();
    the512thCall();
    toldCounts();
  }

  private static void eachErrorIsItsNumber() {
    Checks.topic("LOW is -1000000000; LOW - 1 BEYOND .. LOW - 6 PARTED");
    FountainTalk x = chain(8, 1);
    due("BEYOND", x.count(9), -1000000001);
    due("NONE", x.restore(), -1000000002);
    due("STATE", x.pipe(0, 0, 1), -1000000003);
    due("FULL", x.fountain(0, 0), -1000000004);
    due("KIND", x.as(0, 1), -1000000005);
    due("PARTED", x.voice(0, 3, 0), -1000000006);
    for (int k = 1; k <= 6; k++) due("told(" + k + ")", x.told(k), 1);
  }

  private static void anyNumberIsNoError() {
    Checks.topic("a number that looks like an ERROR is none");
    FountainTalk x = one(5, 0);
    int before = 1;
    for (int k = 0; k <= 7; k++) {
      due("voice", x.voice(0, 0, LOW - k), LOW - k);
      due("its BODY", x.body(0), 10);
      due("seed", x.seed(LOW - k), before);
      due("z", x.count(8), LOW - k);
      before = LOW - k;
    }
    noErrors(x);
  }

  private static void the512thCall() {
    Checks.topic("at most 512 calls");
    FountainTalk x = new FountainTalk();
    for (int i = 0; i < 510; i++) x.told(0);
    due("the 511th call", x.told(7), -1000000001);
    due("the 512th call", x.told(1), 511);
    FountainTalk y = new FountainTalk();
    for (int i = 0; i < 511; i++) y.image();
    due("the 512th image()", y.image(), 512);
    FountainTalk z = new FountainTalk();
    for (int i = 0; i < 510; i++) z.loose(20);
    due("the 511th call: the first 499 are no STATE", z.told(3), 11);
    due("the 512th call", z.count(3), 9980);
  }

  private static void toldCounts() {
    Checks.topic("38 told");
    FountainTalk x = new FountainTalk();
    for (int k : new int[] {0, 7, -1, 8, MIN, MAX}) {
      int before = x.told(1);
      due("told(" + k + ")", x.told(k), -1000000001);
      due("counted, too", x.told(1), before + 1);
    }
    due("the last k", x.told(6), 0);
    due("asking is no ERROR", x.told(1), 6);
  }

  // ---- what is empty, what is full

  private static void whatIsEmpty() {
    Checks.topic("a new object");
    FountainTalk x = new FountainTalk();
    int[] counts = {0, 0, 0, 0, 0, 0, 0, 0, 1};
    for (int what = 0; what <= 8; what++) due("count(" + what + ")", x.count(what), counts[what]);
    due("nothing waits", x.check(), 0);
    due("no TEXT", x.untell(0), 0);
    due("no TEXT", x.untell(1), 0);
    due("a DAY without FOUNTAINS", x.days(1), 1);
    due("FROST", x.freeze(0), 0);
    due("z", x.seed(1), 1);
    noErrors(x);
    due("no bytes", x.text(0), -10);
    noErrors(x);
    due("no FOUNTAIN", x.hears(0, 1), -1000000001);
    due("no PIPE", x.pipeIs(0, 0), -1000000001);
    due("no TRACE", x.body(0), -1000000002);
    due("no IMAGE", x.restore(), -1000000002);
    due("no SHEET", x.fits(0, 0), -1000000002);
    Checks.topic("36 check, at its ends");
    due("one waits, no FOUNTAINS", x.tell(0), 1);
    due("there is no FOUNTAIN for it", x.check(), 1);
    due("none waits then", x.check(), 0);
    FountainTalk y = chain(8, 1);
    Checks.talk(y, 0, 99999, 2, 3, 4, 5, 6, 7);
    int[] talks = {0, 99999, 2, 3, 4, 5, 6, 7};
    for (int wrong = 0; wrong <= 8; wrong++) {
      for (int f = 0; f < 8; f++) y.tell(f == wrong ? talks[f] + 1 : talks[f]);
      due("the one that isn't so: " + wrong, y.check(), wrong == 8 ? 0 : 1 + wrong);
      due("none waits", y.count(6), 0);
    }
    for (int f = 0; f < 8; f++) y.tell(talks[f]);
    y.tell(0);
    due("a ninth, for which there is no FOUNTAIN", y.check(), 9);
    for (int v : new int[] {MIN, MAX, -1, 100000}) {
      y.tell(v);
      due("any number waits", y.check(), 1);
    }
    noErrors(y);
  }

  private static void whatIsFull() {
    Checks.topic("35 tell: FULL: 24 wait");
    FountainTalk x = new FountainTalk();
    for (int i = 1; i <= 24; i++) due("tell", x.tell(i), i);
    due("count(6)", x.count(6), 24);
    due("a 25th", x.tell(0), -1000000004);
    due("a 26th", x.tell(0), -1000000004);
    due("count(6)", x.count(6), 24);
    due("check", x.check(), 1);
    for (int i = 1; i <= 24; i++) due("tell once more", x.tell(0), i);
    due("FULL once more", x.tell(0), -1000000004);
    due("counted", x.told(4), 3);
    Checks.topic("2 fountain, 8 pipe: FULL");
    FountainTalk y = ninePipes();
    for (int f = 2; f < 8; f++) due("fountain", y.fountain(0, 0), f);
    due("a ninth FOUNTAIN", y.fountain(0, 0), -1000000004);
    due("a tenth PIPE", y.pipe(0, 7, 1), -1000000004);
    due("FOUNTAINS", y.count(0), 8);
    due("PIPES", y.count(1), 9);
    due("become is not FULL", y.become(7, 69), 0);
    due("turn is not FULL", y.turn(8, 0), 1);
    due("a tenth PIPE when one is shut", y.pipe(0, 7, 1), -1000000004);
  }

  // ---- IMAGES

  private static void imagesAtTheEdge() {
    Checks.topic("33 image, 34 restore, of an empty city");
    FountainTalk x = new FountainTalk();
    due("image", x.image(), 1);
    x.fountain(69, 9);
    x.fountain(69, 0);
    x.pipe(0, 1, 1);
    Checks.text(x, 0, "z*2");
    Checks.feed(x, "z");
    x.tell(1);
    x.freeze(9);
    x.loose(1);
    x.sheet(0, 8, 1);
    x.voice(0, 1, 1);
    int beyond = x.fountain(70, 0);
    due("restore", x.restore(), 0);
    int[] counts = {0, 0, 0, 0, 0, 0, 0, 3, 1};
    for (int what = 0; what <= 8; what++) due("count(" + what + ")", x.count(what), counts[what]);
    due("no TEXT", x.untell(0), 0);
    due("the SHEET stays", x.put(0, 0, 1), 1);
    due("what told() tells stays", x.told(1), beyond == -1000000001 ? 1 : -1);
    due("a FOUNTAIN is the first again", x.fountain(0, 0), 0);
    due("its TALK", x.fountainIs(0, 3), 0);
    due("restore", x.restore(), 0);
    due("FOUNTAINS", x.count(0), 0);
    due("how often it was done stays", x.image(), 2);
    Checks.topic("33 image, 34 restore, of a full city");
    FountainTalk y = Cities.full();
    List<Integer> seen = Cities.seen(y);
    y.become(7, 11);
    y.turn(8, 1);
    y.freeze(0);
    y.days(30);
    y.let(7, 99);
    y.seed(1);
    y.check();
    y.text(0);
    Checks.feed(y, "(k)-h|z");
    y.tell(5);
    y.untell(1);
    due("DAY", y.restore(), 30);
    Checks.isTrue("all is as the IMAGE has it", seen.equals(Cities.seen(y)));
    due("the numbers that wait", y.check(), 9);
    due("THE TAPE", y.text(1), -10 - 56);
    due("DAY, once more", y.restore(), 30);
    due("THE TAPE", y.text(0), 1);
    due("its law", y.law(0, 40, 0, 0), 56);
  }
}
