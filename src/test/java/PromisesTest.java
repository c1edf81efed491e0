/** For each promise of the document: ordinary inputs, the edges that it names, and wrong inputs, worked out by hand. */
public final class PromisesTest {
  private static final int BAD = -1, NOT = -2, FULL = -3, STATE = -5;
  private static final long REFUSED = Long.MIN_VALUE;
  private static final int MIN = Integer.MIN_VALUE, MAX = Integer.MAX_VALUE;
  private static int passed = 0;
  private static int failed = 0;
  private static int promise = 0;

  private static void due(String call, long got, long want) {
    if (got == want) {
      passed++;
      return;
    }
    failed++;
    System.out.println("promise " + promise + ": " + call + " answered " + got + ", due is " + want);
  }

  public static void main(String[] args) {
    squaresAndGoers();
    laws();
    ordersInThought();
    searches();
    loads();
    unsureIce();
    cracks();
    deeds();
    changes();
    acts();
    shelves();
    System.out.println("PromisesTest:");
    System.out.println(passed + " passed, " + failed + " failed");
    if (failed > 0) System.exit(1);
  }

  // ---- what the tests share

  private static void row(HeaviestLast x, int shelf, int... bytes) {
    x.row(shelf, 0, bytes.length);
    for (int i = 0; i < bytes.length; i++) x.put(shelf, i, bytes[i]);
  }

  private static int law(HeaviestLast x, String text) {
    for (int i = 0; i < text.length(); i++) x.feed(text.charAt(i));
    return x.law();
  }

  private static HeaviestLast withGoers(int... weightsAndTakes) {
    HeaviestLast x = new HeaviestLast();
    for (int i = 0; i < weightsAndTakes.length; i += 2) x.goer(weightsAndTakes[i], weightsAndTakes[i + 1]);
    return x;
  }

  private static void wholeWay(HeaviestLast x, int way, int what, int v) {
    for (int place = 0; place < 8; place++) x.mend(8 * way + place, what, v);
  }

  /** A pond whose way 0 is 99 strong and does not mend, so that WEAK tells what a crossing took. */
  private static HeaviestLast hard(int... weightsAndTakes) {
    HeaviestLast x = withGoers(weightsAndTakes);
    wholeWay(x, 0, 0, 99);
    wholeWay(x, 0, 1, 0);
    return x;
  }

  /** A goer of 8 and 5 goes in minute 7: how weak place 3 is by a law. */
  private static int taken(String text) {
    HeaviestLast x = hard(8, 5);
    x.stay(7);
    if (law(x, text) != 1) return -1000;
    x.go(0, 0);
    return x.of(3, 10);
  }

  // ---- 1 to 5

  private static void squaresAndGoers() {
    promise = 1;
    HeaviestLast x = new HeaviestLast();
    for (int k = 0; k < 6; k++) due("count", x.count(k), 0);
    for (int q = 0; q < 24; q++) {
      due("STRENGTH", x.of(q, 0), 30);
      due("MENDS", x.of(q, 1), 1);
      due("THIN", x.of(q, 2), 0);
      due("LESS", x.of(q, 3), 10);
      due("WEAK", x.of(q, 10), 0);
      due("BEARS", x.of(q, 11), 30);
    }
    due("SUNNY", x.of(0, 8), 999);
    due("NOW", x.of(0, 12), 0);
    for (int k = 0; k < 4; k++) due("led", x.led(k), 0);
    due("led(4)", x.led(4), NOT);
    for (int s = 0; s < 6; s++) due("a shelf holds nothing", x.put(s, 0, 1), -11);
    due("BAD", HeaviestLast.BAD, -1);
    due("NOT", HeaviestLast.NOT, -2);
    due("FULL", HeaviestLast.FULL, -3);
    due("STATE", HeaviestLast.STATE, -5);
    due("VOID", HeaviestLast.VOID, -2000000000);

    promise = 2;
    int[][] bad = {{0, 5}, {61, 5}, {5, -1}, {5, 61}, {MIN, 0}, {MAX, 0}, {1, MIN}, {1, MAX}, {-1, -1}};
    for (int[] b : bad) due("goer", x.goer(b[0], b[1]), BAD);
    due("none came", x.count(0), 0);
    for (int g = 0; g < 7; g++) due("goer", x.goer(g == 0 ? 1 : 60, g == 0 ? 0 : 60), g);
    due("the eighth", x.goer(5, 5), FULL);
    due("BAD ahead of FULL", x.goer(0, 5), BAD);
    due("WEIGHT", x.of(0, 4), 1);
    due("LIES", x.of(0, 5), 0);
    due("TAKES", x.of(0, 6), 0);
    due("PACE", x.of(0, 7), 2);
    due("WEIGHT", x.of(6, 4), 60);
    due("TAKES", x.of(6, 6), 60);
    due("a goer is no change", x.count(3), 0);

    goersFromRows();
    mending();
  }

  private static void goersFromRows() {
    promise = 3;
    HeaviestLast x = new HeaviestLast();
    due("nothing is there", x.goers(0, 0, 3), 0);
    due("nothing is there, from below 0", x.goers(0, -1, 1), 0);
    due("nothing is there, from far below 0", x.goers(5, MIN, 7), 0);
    due("nothing is there, from far behind", x.goers(5, MAX, 7), 0);
    due("nothing is there, BAD n", x.goers(0, -1, 0), BAD);
    due("nothing is there, BAD n", x.goers(0, -1, 8), BAD);
    due("BAD shelf, from below 0", x.goers(6, -1, 1), BAD);
    x.row(0, 0, 0);
    due("an empty row", x.goers(0, 0, 1), 0);
    due("an empty row, from below 0", x.goers(0, -1, 1), 0);
    row(x, 0, 10, 4, 3, 60, 60, 9, 1, 0);
    due("BAD n", x.goers(0, 0, 0), BAD);
    due("BAD n", x.goers(0, 0, 8), BAD);
    due("BAD shelf", x.goers(6, 0, 1), BAD);
    due("BAD shelf", x.goers(-1, 0, 1), BAD);
    due("the row has no place -1", x.goers(0, -1, 1), 0);
    due("it ends at the first three that lacks", x.goers(0, -3, 7), 0);
    due("far below 0", x.goers(0, MIN, 7), 0);
    due("none of these came", x.count(0), 0);
    due("far behind the end", x.goers(0, MAX, 7), 0);
    due("at the end", x.goers(0, 8, 1), 0);
    due("within a three", x.goers(0, 6, 1), 0);
    due("a three's end lacks", x.goers(0, 0, 3), 2);
    due("how many", x.count(0), 2);
    due("WEIGHT", x.of(0, 4), 10);
    due("TAKES", x.of(0, 6), 4);
    due("PACE", x.of(0, 7), 3);
    due("LIES", x.of(0, 5), 0);
    due("PACE", x.of(1, 7), 9);
    due("from a place on", x.goers(0, 3, 1), 1);
    due("no more than n", x.count(0), 3);
    x.row(1, 2, 3);
    due("ints", x.goers(1, 0, 1), -12);
    due("ints, from below 0", x.goers(1, -1, 1), -12);
    due("BAD ahead of -12", x.goers(1, -1, 0), BAD);
    x.body(0);
    x.keep(2, 0);
    due("a body", x.goers(2, 0, 1), -12);
    due("a body, from below 0", x.goers(2, -1, 1), -12);
    int[][] notSo = {{0, 1, 1}, {61, 1, 1}, {1, -1, 1}, {1, 61, 1}, {1, 1, 0}, {1, 1, 10}, {-100, 1, 1}};
    for (int[] b : notSo) {
      row(x, 1, b);
      due("one is not so", x.goers(1, 0, 1), 0);
    }
    due("none of these came", x.count(0), 3);
    row(x, 1, 5, 5, 5, 5, 5, 10, 5, 5, 5);
    due("it ends where one is not so", x.goers(1, 0, 3), 1);
    row(x, 1, 1, 1, 1, 2, 1, 1, 3, 1, 1, 4, 1, 1, 5, 1, 1);
    due("till they are full", x.goers(1, 0, 5), 3);
    due("how many", x.count(0), 7);
    due("full", x.goers(1, 0, 5), 0);
    due("goers are no change", x.undo(), STATE);
  }

  private static void mending() {
    promise = 4;
    int[] most = {99, 9, 12, 99, 60, 1, 60, 9, 999};
    int[] least = {0, 0, 0, 0, 1, 0, 0, 1, 0};
    int[] first = {30, 1, 0, 10, 20, 0, 7, 2, 999};
    for (int what = 0; what < 9; what++) {
      HeaviestLast x = withGoers(20, 7, 20, 7);
      int last = what < 4 ? 23 : what < 8 ? 1 : 0;
      due("too much", x.mend(last, what, most[what] + 1), BAD);
      due("too little", x.mend(last, what, least[what] - 1), BAD);
      due("no such number", x.mend(last + 1, what, least[what]), BAD);
      due("no such number", x.mend(-1, what, least[what]), BAD);
      due("no such number", x.mend(MAX, what, least[what]), BAD);
      due("nothing changed", x.of(last, what), first[what]);
      due("no change is kept", x.count(3), 0);
      due("what it was", x.mend(last, what, least[what]), first[what]);
      due("what it was", x.mend(last, what, most[what]), least[what]);
      promise = 5;
      due("what it is", x.of(last, what), most[what]);
      due("no such number", x.of(last + 1, what), BAD);
      due("no such number", x.of(-1, what), BAD);
      promise = 4;
      if (last > 0) due("only that one", x.of(0, what), first[what]);
    }
    HeaviestLast x = withGoers(20, 7);
    for (int what : new int[] {-1, 9, 10, 11, 12, MIN, MAX}) due("no such what", x.mend(0, what, 1), BAD);

    promise = 5;
    for (int what : new int[] {-1, 9, 13, MIN, MAX}) due("no such what", x.of(0, what), BAD);
    due("WEAK", x.of(24, 10), BAD);
    due("BEARS", x.of(-1, 11), BAD);
    due("NOW", x.of(1, 12), BAD);
    x.go(0, 1);
    due("7 taken, 2 back", x.of(8, 10), 5);
    due("WEAK of another way", x.of(7, 10), 0);
    due("BEARS", x.of(15, 11), 25);
    due("NOW", x.of(0, 12), 2);
    x.mend(0, 8, 2);
    due("the sun has taken none yet", x.of(0, 11), 30);
    x.mend(0, 8, 1);
    due("1 for a further minute", x.of(0, 11), 29);
    x.mend(0, 8, 0);
    due("sun and WEAK", x.of(8, 11), 23);
    x.mend(8, 0, 6);
    due("0 at least", x.of(8, 11), 0);
    x.mend(0, 2, 12);
    due("THIN is left out", x.of(0, 11), 28);
  }

  // ---- 6, 7

  private static void laws() {
    promise = 6;
    HeaviestLast x = new HeaviestLast();
    due("below", x.feed(-1), BAD);
    due("above", x.feed(256), BAD);
    due("none came", x.count(2), 0);
    due("0", x.feed(0), 1);
    due("255", x.feed(255), 2);
    for (int n = 3; n <= 120; n++) due("feed", x.feed('1'), n);
    due("the 121st", x.feed('1'), FULL);
    due("BAD ahead of FULL", x.feed(256), BAD);
    due("bytes", x.count(2), 120);

    promise = 7;
    due("its first byte", x.law(), -100);
    due("the tape is empty then", x.count(2), 0);
    faults();
    values();
    x = hard(8, 5);
    due("a law", law(x, "6"), 1);
    due("the tape is empty", x.count(2), 0);
    due("a fault", law(x, "7+"), -102);
    due("the tape is empty", x.count(2), 0);
    x.go(0, 0);
    due("the law stays behind a fault", x.of(0, 10), 6);
    due("an empty tape", x.law(), -100);
    x.go(0, 0);
    due("the law stays", x.of(0, 10), 12);
    StringBuilder whole = new StringBuilder("1");
    for (int n = 0; n < 59; n++) whole.append("+1");
    due("119 bytes", law(x, whole.toString()), 1);
    due("120 bytes, too early", law(x, whole + "+"), -220);
    due("120 bytes", law(x, "1" + whole), 1);
    x.go(0, 0);
    due("11 and 59 more", x.of(0, 10), 12 + 70);
  }

  private static void faults() {
    String[] good = {"1", "1234", "0000", "w", "w?t;p?b;s?m", "1;2;3", "1<2", "1<2&3>4|5=6", "(1<2)<3", "!!!!!!1",
        "------1", "((((((1))))))", "!(-(!(1)))", "1--1", "1-!1", "-1+-1+-1+-1+-1+-1+-1+-1", "((((((1))))))+((((((1))))))",
        "(1|2)&3", "1%2/3*4", "1?2", "!w<!t",
        "1?((((((1))))))", "1;((((((1))))))", "((((((1))))))?!!!!!!1"};
    for (String text : good) due(text, law(new HeaviestLast(), text), 1);
    String[] bad = {"", "x", "W", " 1", "1 ", "12345", "123w", "ww", "1;", ";", "1;;2", "1?", "?1", "1?2?3", "1?2;3?4?5",
        "1<2<3", "1<2=3", "1<2+3>4", "(1?2)", "(1;2)", "(1", "()", "1)", "(1))", "!!!!!!!1", "-------1", "(((((((1",
        "!(-(!(-1)))", "!(-(!(--1)))", "1+", "1++1", "1+*2", "!", "-", "(", "1!", "1(", "a", "1&&2", "1|", "1==2", "2<",
        "(1<2<3)", "1+!", "((((((1)))))", "((((((-1))))))", "w1", "1\u0000", "1\u00ff"};
    int[] fault = {0, 0, 0, 0, 1, 4, 3, 1, 2, 0, 2, 2, 0, 3, 7,
        3, 3, 5, 2, 2, 2, 1, 1, 3, 6, 6, 6,
        6, 6, 2, 2, 2, 1, 1, 1, 1, 1, 0, 2, 2, 2, 2,
        4, 3, 12, 6, 1, 1, 1};
    for (int i = 0; i < bad.length; i++) due(bad[i], law(new HeaviestLast(), bad[i]), -100 - fault[i]);
  }

  private static void values() {
    String[] text = {"w", "t", "p", "b", "s", "m", "0", "-1", "100", "9999", "7/0", "7%0", "7/0+3", "10-7/2", "-7/2+10",
        "-7%4+10", "7%-4", "2+3*4", "2*3+4", "(2+3)*4", "10-3-2", "80/10/4", "1|0&0", "(1|0)&0", "!5", "!0", "!0+1",
        "!(0+1)", "-3*-4", "1<2", "2<2", "2=2", "2=3", "4>3", "3>3", "1+1<3&2>1", "3<2|5", "3&5", "0|0", "0?5;7",
        "1?5;7", "-1?5;7", "0?5", "0?1;0?2;s", "2?w", "5;6", "0;6", "w>7?t;p", "w>8?t;p", "s=3?9;1", "b-90", "m*2",
        "10--5", "10-!5", "--5", "!!5", "1|1+1", "20%7*2"};
    int[] value = {8, 5, 2, 99, 3, 7, 0, 0, 99, 99, 0, 0, 3, 7, 7,
        7, 3, 14, 10, 20, 5, 2, 1, 0, 0, 1, 2,
        0, 12, 1, 0, 1, 0, 1, 0, 1, 1, 1, 0, 7,
        5, 5, 0, 3, 8, 5, 0, 5, 2, 9, 9, 14,
        15, 10, 5, 1, 1, 12};
    for (int i = 0; i < text.length; i++) due(text[i], taken(text[i]), value[i]);
    int wrapped = 9999 * 9999 * 9999 % 100;
    due("ints wrap", taken("9999*9999*9999%100"), Math.max(0, wrapped));
    due("ints wrap", taken("-(9999*9999*9999%100)"), Math.max(0, -wrapped));

    HeaviestLast x = hard(9, 7);
    x.mend(0, 5, 1);
    x.mend(0, 7, 3);
    law(x, "w*10+t+p");
    x.go(0, 0);
    due("lying: w half upward, t and p whole", x.of(0, 10), 60);
    x.go(0, 0);
    due("99 at most", x.of(0, 10), 99);
    x = hard(9, 7);
    x.mend(0, 5, 1);
    x.go(0, 0);
    due("without a text, lying: half, cut", x.of(0, 10), 3);
  }

  // ---- 8, 9, 11, 12, 14

  private static HeaviestLast four() {
    return withGoers(8, 5, 20, 6, 12, 9, 30, 12);
  }

  private static void refusals(java.util.function.IntBinaryOperator call, HeaviestLast x) {
    x.keep(5, -1);
    x.row(4, 1, 3);
    if (x.count(4) == 0) x.body(0);
    x.keep(3, 0);
    due("no such way", call.applyAsInt(5, 3), BAD);
    due("no such way", call.applyAsInt(4, -1), BAD);
    due("no such shelf", call.applyAsInt(6, 0), BAD);
    due("no such shelf", call.applyAsInt(-1, 0), BAD);
    due("nothing", call.applyAsInt(5, 0), -11);
    due("shorts", call.applyAsInt(4, 0), -12);
    due("a body", call.applyAsInt(3, 0), -12);
  }

  private static void ordersInThought() {
    promise = 8;
    HeaviestLast x = four();
    row(x, 0, 0, 2, 1, 3);
    due("OVER", x.over(0, 0, 0), 3);
    due("the first that falls", x.over(0, 0, 1), 3);
    due("minutes", x.over(0, 0, 2), 8);
    due("no such what", x.over(0, 0, 3), BAD);
    due("no such what", x.over(0, 0, -1), BAD);
    due("in thought", x.of(0, 12), 0);
    due("in thought", x.of(0, 10), 0);
    refusals((shelf, way) -> x.over(shelf, way, 0), x);
    row(x, 1, 0, 4, 1);
    due("one that is none ends it", x.over(1, 0, 2), 2);
    row(x, 1, 0, -1, 1);
    due("one that is none ends it", x.over(1, 0, 0), 1);
    row(x, 1, 3, 0, 0);
    due("behind one that fell", x.over(1, 0, 0), 3);
    HeaviestLast light = withGoers(1, 0);
    row(light, 0, 0, 0, 0, 0, 0, 0, 0, 0, 0, 0, 0, 0);
    due("10 count", light.over(0, 0, 0), 10);
    light.mend(0, 5, 1);
    due("lying twice as long", light.over(0, 0, 2), 40);
    due("none falls", light.over(0, 0, 1), NOT);
    light.stay(5);
    due("minutes from now on", light.over(0, 0, 2), 40);

    promise = 9;
    due("a square of it", x.bears(0, 0, 3), 18);
    due("where one fell", x.bears(0, 0, 0), 0);
    due("of another way", x.bears(0, 0, 8), 30);
    due("no square", x.bears(0, 0, 24), BAD);
    due("no square", x.bears(0, 0, -1), BAD);
    refusals((shelf, way) -> x.bears(shelf, way, 0), x);
    x.mend(0, 8, 5);
    due("the sun at last", x.bears(0, 0, 8), 27);

    rulesAndWaits();
    leastStrength();
  }

  private static void rulesAndWaits() {
    promise = 11;
    HeaviestLast x = four();
    int[] over = {3, 4, 4, 3, 1};
    for (int r = 0; r < 5; r++) due("rule " + r, x.rule(0, r), over[r]);
    for (int r : new int[] {-1, 5, MIN, MAX}) due("no rule", x.rule(0, r), BAD);
    due("no way", x.rule(3, 0), BAD);
    // of like weight: who takes 15 ahead of who takes 5 leaves too little
    HeaviestLast slow = withGoers(20, 15, 20, 5);
    due("like ones by numbers", slow.rule(0, 0), 1);
    due("like ones by numbers", slow.rule(0, 1), 1);
    due("WEIGHT less TAKES", slow.rule(0, 2), 2);
    due("by numbers", slow.rule(0, 3), 1);
    due("the best", slow.rule(0, 4), 2);
    HeaviestLast quick = withGoers(20, 5, 20, 15);
    for (int r = 0; r < 4; r++) due("rule " + r, quick.rule(0, r), 2);
    due("of like ones the least", quick.rule(0, 4), 0);
    // 24 - 18 is less than 20 - 12: the rule goes by the difference, not by the weight
    HeaviestLast differ = withGoers(24, 18, 20, 12);
    due("the greater difference first", differ.rule(0, 2), 1);
    due("the heavier first", differ.rule(0, 1), 1);
    due("nobody", new HeaviestLast().rule(2, 4), 0);

    promise = 12;
    HeaviestLast y = withGoers(20, 15, 20, 15);
    row(y, 0, 0, 1, 0);
    due("the first", y.waits(0, 0, 0), 0);
    due("13 weak, 10 may be", y.waits(0, 0, 1), 3);
    due("23 weak, 10 may be", y.waits(0, 0, 2), 13);
    due("all", y.waits(0, 0, -1), 16);
    due("the minute at last", y.waits(0, 0, -2), 22);
    due("not as many", y.waits(0, 0, 3), NOT);
    due("no such k", y.waits(0, 0, -3), BAD);
    refusals((shelf, way) -> y.waits(shelf, way, -1), y);
    y.stay(10);
    due("a minute, not how many", y.waits(0, 0, -2), 32);
    y.mend(0, 1, 0);
    due("no wait helps", y.waits(0, 0, 1), 0);
    due("it goes at once", y.waits(0, 0, -2), 16);
    waitsOf("62", 60);
    waitsOf("63", 0);
    y.mend(0, 1, 1);
    y.mend(0, 8, 12);
    due("the sun takes what comes back", y.waits(0, 0, 1), 0);
  }

  /** Behind a crossing that takes so much a second goer of 60 waits so long on ice of 60. */
  private static void waitsOf(String takes, int wait) {
    HeaviestLast x = withGoers(60, 0);
    wholeWay(x, 0, 0, 60);
    law(x, takes);
    row(x, 0, 0, 0);
    due("60 minutes at most", x.waits(0, 0, 1), wait);
  }

  private static void leastStrength() {
    promise = 14;
    HeaviestLast x = withGoers(12, 5, 9, 0);
    row(x, 0, 0);
    due("one", x.strength(0, 1), 12);
    row(x, 0, 0, 0);
    due("two: 3 weak", x.strength(0, 1), 15);
    row(x, 0, 0, 0, 1);
    due("three", x.strength(0, 1), 15);
    x.mend(12, 1, 0);
    due("MENDS as they are", x.strength(0, 1), 19);
    x.mend(12, 0, 0);
    x.mend(12, 2, 12);
    due("STRENGTH and THIN do not count", x.strength(0, 1), 19);
    x.go(1, 0);
    x.go(0, 1);
    due("WEAK does not count", x.strength(0, 1), 19);
    row(x, 0);
    due("nobody", x.strength(0, 1), 0);
    HeaviestLast y = x;
    refusals((shelf, way) -> y.strength(shelf, way), y);
    law(x, "99");
    row(x, 0, 0, 0);
    due("by none", x.strength(0, 1), NOT);
    HeaviestLast edge = withGoers(60, 0);
    row(edge, 0, 0, 0);
    law(edge, "41");
    due("99 at most: 39 weak", edge.strength(0, 1), 99);
    law(edge, "42");
    due("100 would do", edge.strength(0, 1), NOT);
  }

  // ---- 10, 13, 16

  private static void searches() {
    promise = 10;
    HeaviestLast x = four();
    int[] order = {3, 1, 0, 2};
    due("how many", x.all(0, -1), 4);
    for (int k = 0; k < 4; k++) due("the k-th", x.all(0, k), order[k]);
    due("not as many", x.all(0, 4), NOT);
    due("no such k", x.all(0, -2), BAD);
    due("no such way", x.all(3, -1), BAD);
    due("no such way", x.all(-1, -1), BAD);
    HeaviestLast heavy = withGoers(60, 1, 20, 1, 60, 1);
    due("the falling ones, too", heavy.all(1, -1), 1);
    due("20 must be first", heavy.all(1, 0), 1);
    due("then by numbers", heavy.all(1, 1), 0);
    due("then by numbers", heavy.all(1, 2), 2);
    due("in thought", heavy.of(8, 10), 0);
    due("nobody", new HeaviestLast().all(0, -1), 0);

    promise = 13;
    due("the minute", x.soonest(0, -1), 8);
    for (int k = 0; k < 4; k++) due("the k-th", x.soonest(0, k), order[k]);
    due("not as many", x.soonest(0, 4), NOT);
    due("no such k", x.soonest(0, -2), BAD);
    due("no such way", x.soonest(3, -1), BAD);
    due("by none", heavy.soonest(1, -1), NOT);
    due("by none", heavy.soonest(1, 0), NOT);
    HeaviestLast same = withGoers(20, 15, 20, 15);
    due("with a wait of 3", same.soonest(0, -1), 7);
    due("of like ones the first", same.soonest(0, 0), 0);
    same.stay(5);
    due("a minute, not how many", same.soonest(0, -1), 12);
    HeaviestLast many = withGoers(1, 1, 1, 1, 1, 1, 1, 1, 1, 1);
    due("5 may be", many.soonest(0, -1), 10);
    many.goer(1, 1);
    due("6 are too many", many.soonest(0, -1), STATE);
    due("STATE ahead of NOT", many.soonest(0, 6), STATE);
    due("BAD ahead of STATE", many.soonest(3, 0), BAD);

    promise = 16;
    int[] ways = {0, 0, 0, 1};
    due("how many", x.several(-1), 4);
    for (int g = 0; g < 4; g++) due("its way", x.several(g), ways[g]);
    due("no goer", x.several(4), BAD);
    due("no goer", x.several(-2), BAD);
    // each takes all a way has, so that they need three ways; the fourth falls wherever
    HeaviestLast apart = withGoers(30, 60, 30, 60, 30, 60, 30, 60);
    due("three of four", apart.several(-1), 3);
    int[] each = {0, 0, 1, 2};
    for (int g = 0; g < 4; g++) due("its way", apart.several(g), each[g]);
    due("nobody", new HeaviestLast().several(-1), 0);
    due("nobody", new HeaviestLast().several(0), BAD);
  }

  // ---- 15

  private static void loads() {
    promise = 15;
    HeaviestLast x = withGoers(10, 0);
    due("50 at once", x.load(0, 40, 1), 0);
    due("30, 5 taken, the second falls", x.load(0, 40, 2), 1);
    due("24, 3 taken", x.load(0, 40, 3), 3);
    due("the fewest", x.load(0, 40, 0), 3);
    due("parts upward", x.load(1, 9, 9), 9);
    due("1 in 9 parts of 1", x.load(1, 1, 9), 9);
    due("20 may be carried", x.load(0, 20, 1), 1);
    due("21 not", x.load(0, 21, 1), 0);
    due("23 in each of 9 parts is too much", x.load(0, 200, 0), NOT);
    int[][] bad = {{-1, 5, 1}, {3, 5, 1}, {9, 5, 1}, {10, 5, 1}, {MIN, 5, 1}, {MAX, 5, 1}, {0, 0, 1}, {0, 201, 1},
        {0, 5, -1}, {0, 5, 10}, {0, MIN, 1}, {0, 5, MAX}};
    for (int[] b : bad) due("BAD", x.load(b[0], b[1], b[2]), BAD);
    due("in thought", x.of(0, 12), 0);
    HeaviestLast back = withGoers(20, 11);
    wholeWay(back, 0, 1, 0);
    due("11 taken: it falls on its way back", back.load(0, 2, 2), 1);
    due("one part needs no way back", back.load(0, 10, 0), 1);
    due("by falling back none is fewest", back.load(0, 11, 0), NOT);
    // lying: 25 and 25 weigh 25; 7 and 6 take 13, half is 6
    HeaviestLast lying = hard(25, 7);
    lying.mend(0, 5, 1);
    wholeWay(lying, 0, 0, 34);
    due("34, less 6, less 3", lying.load(0, 50, 2), 2);
    wholeWay(lying, 0, 0, 33);
    due("33, less 6, less 3", lying.load(0, 50, 2), 1);
    law(lying, "t");
    wholeWay(lying, 0, 0, 45);
    due("45, less 13, less 7", lying.load(0, 50, 2), 2);
    wholeWay(lying, 0, 0, 44);
    due("44, less 13, less 7", lying.load(0, 50, 2), 1);
    law(lying, "w");
    wholeWay(lying, 0, 0, 63);
    due("63, less 25, less 13", lying.load(0, 50, 2), 2);
    wholeWay(lying, 0, 0, 62);
    due("62, less 25, less 13", lying.load(0, 50, 2), 1);
    law(lying, "p");
    lying.mend(0, 7, 9);
    wholeWay(lying, 0, 0, 42);
    due("42, less 9, less 9 for 25", lying.load(0, 50, 2), 1);
  }

  // ---- 17, 18, 19

  private static void unsureIce() {
    promise = 17;
    HeaviestLast x = withGoers(25, 0, 60, 0);
    row(x, 0, 0);
    due("sure", x.unsure(0, 0, 0), 1);
    due("sure", x.unsure(0, 0, 1), 1);
    x.mend(3, 2, 3);
    due("9 of 12", x.unsure(0, 0, 0), 3);
    due("9 of 12", x.unsure(0, 0, 1), 4);
    x.mend(5, 2, 6);
    due("and 6 of 12", x.unsure(0, 0, 0), 3);
    due("and 6 of 12", x.unsure(0, 0, 1), 8);
    x.mend(5, 3, 5);
    due("5 less do not harm", x.unsure(0, 0, 1), 4);
    x.mend(3, 2, 12);
    due("surely not", x.unsure(0, 0, 0), 0);
    due("surely not", x.unsure(0, 0, 1), 1);
    x.mend(3, 2, 3);
    row(x, 1, 0, 0, 0, 0, 1);
    due("4 count", x.unsure(1, 0, 0), 3);
    row(x, 1, 0, 0, 0, 1);
    due("the fourth counts", x.unsure(1, 0, 0), 0);
    row(x, 1);
    due("nobody", x.unsure(1, 0, 0), 1);
    x.row(2, 3, 4);
    x.body(0);
    x.keep(3, 0);
    long[] refused = {x.unsure(0, 0, 2), x.unsure(0, 0, -1), x.unsure(0, 3, 0), x.unsure(0, -1, 0), x.unsure(6, 0, 0),
        x.unsure(-1, 0, 0), x.unsure(5, 0, 0), x.unsure(2, 0, 0), x.unsure(3, 0, 0)};
    for (long v : refused) due("refused", v, REFUSED);
    HeaviestLast b = withGoers(25, 0);
    row(b, 0, 0, 0);
    b.mend(0, 3, 1);
    b.mend(0, 2, 1);
    law(b, "b<30?9;0");
    due("b is what the thin square bears", b.unsure(0, 0, 0), 11);
    due("b is what the thin square bears", b.unsure(0, 0, 1), 12);

    promise = 18;
    x.mend(5, 3, 10);
    due("the square", x.bore(0, 0, 2), 5);
    due("how likely then", x.bore(0, 0, 0), 3);
    due("how likely then", x.bore(0, 0, 1), 4);
    x.mend(5, 2, 3);
    due("of like ones the least", x.bore(0, 0, 2), 3);
    due("none thin", x.bore(0, 1, 2), 8);
    due("none thin", x.bore(0, 2, 0), 1);
    long[] no = {x.bore(0, 0, 3), x.bore(0, 0, -1), x.bore(0, 3, 0), x.bore(0, -1, 0), x.bore(6, 0, 0), x.bore(5, 0, 0),
        x.bore(2, 0, 0), x.bore(3, 0, 0)};
    for (long v : no) due("refused", v, REFUSED);
    due("it stays thin", x.of(5, 2), 3);

    promise = 19;
    due("0 is thin", x.safe(0), 1);
    x.mend(8, 2, 1);
    due("1 too", x.safe(0), 2);
    x.mend(16, 2, 2);
    due("11 of 12", x.safe(0), 1);
    due("by none: the least", x.safe(1), 0);
    due("no goer", x.safe(2), BAD);
    due("no goer", x.safe(-1), BAD);
  }

  // ---- 20, 21, 22

  private static void cracks() {
    promise = 20;
    HeaviestLast x = hard(5, 3, 5, 3, 5, 4);
    row(x, 0, 7);
    due("sets", x.who(0, 0, 0), 2);
    due("the least", x.who(0, 0, 1), 5);
    due("in all", x.who(0, 0, 2), 4);
    row(x, 0, 10, 10, 10, 10, 10, 10, 10, 10, 77);
    due("8 count", x.who(0, 0, 0), 1);
    due("all three", x.who(0, 0, 1), 7);
    due("all three", x.who(0, 0, 2), 7);
    row(x, 0, 10, 10, 10, 10, 10, 10, 10, 9);
    due("the eighth counts", x.who(0, 0, 0), 0);
    due("none", x.who(0, 0, 1), NOT);
    due("none", x.who(0, 0, 2), 0);
    row(x, 0);
    due("any may be", x.who(0, 0, 0), 8);
    due("nobody, too", x.who(0, 0, 1), 0);
    row(x, 0, 0);
    due("nobody", x.who(0, 0, 0), 1);
    x.go(0, 0);
    due("from WEAK 0", x.who(0, 0, 0), 1);
    row(x, 0, 3);
    x.mend(1, 4, 60);
    x.mend(4, 0, 59);
    due("all over", x.who(0, 0, 0), 1);
    HeaviestLast mending = withGoers(5, 6, 5, 4);
    row(mending, 0, 6);
    due("6 back by 2, 4 more, 2 back", mending.who(0, 1, 1), 3);
    due("no such what", x.who(0, 0, 3), BAD);
    due("no such what", x.who(0, 0, -1), BAD);
    HeaviestLast y = x;
    refusals((shelf, way) -> y.who(shelf, way, 0), y);

    promise = 21;
    HeaviestLast z = four();
    row(z, 0, 0, 0, 1, 3, 0, 0, 1, 1, 1);
    due("all so", z.judge(0), NOT);
    row(z, 0, 0, 0, 1, 3, 0, 1, 1, 1, 1);
    due("it falls", z.judge(0), 1);
    row(z, 0, 0, 0, 0);
    due("it is over", z.judge(0), 0);
    row(z, 0);
    due("none told", z.judge(0), NOT);
    int[][] notSo = {{0, 0, 1, 4, 0, 1}, {0, 0, 1, -1, 0, 1}, {0, 0, 1, 0, 3, 1}, {0, 0, 1, 0, -1, 1}, {0, 0, 1, 0, 1, 2},
        {0, 0, 1, 0, 1, -1}, {0, 0, 1, 0, 1}, {0, 0, 1, 0}};
    for (int[] row : notSo) {
      row(z, 0, row);
      due("not so", z.judge(0), 1);
    }
    refusals((shelf, way) -> way == 3 || way == -1 ? BAD : z.judge(shelf), z);
    // who falls at place 1 does not reach place 6, which would not mend; place 1 mends all at once
    HeaviestLast forward = withGoers(40, 0, 5, 0);
    forward.mend(0, 5, 1);
    forward.mend(0, 7, 9);
    forward.mend(1, 0, 10);
    forward.mend(1, 1, 9);
    forward.mend(6, 0, 10);
    forward.mend(6, 1, 0);
    row(forward, 0, 0, 0, 0, 1, 0, 1);
    due("places upward", forward.judge(0), NOT);
    promise = 8;
    row(forward, 0, 0, 1);
    due("places upward", forward.over(0, 0, 0), 1);
    promise = 12;
    due("places upward", forward.waits(0, 0, -2), 20);
    promise = 10;
    due("places upward", forward.all(0, 0), 0);
    promise = 23;
    due("places upward", forward.go(0, 0), 0);
    due("places upward", forward.go(1, 0), 1);
    promise = 21;

    draws();
  }

  private static void draws() {
    promise = 22;
    // by SEED 0 z is 12345, and 12345 >>> 8 is 48: 0 of twelve
    HeaviestLast x = withGoers(25, 0);
    due("none is thin", x.drawn(0, 10, 0), 1);
    x.mend(0, 2, 1);
    due("below THIN", x.drawn(0, 10, 0), 0);
    due("no night", x.drawn(0, 10, 1), 0);
    due("another way", x.drawn(0, 11, 0), 1);
    int z = 77, over = 0;
    x.mend(0, 2, 0);
    x.mend(6, 2, 7);
    for (int night = 0; night < 20; night++) {
      boolean thin = false;
      for (int place = 0; place < 8; place++) {
        z = z * 1103515245 + 12345;
        if (place == 6) thin = (z >>> 8) % 12 < 7;
      }
      if (!thin) over++;
    }
    due("20 nights", x.drawn(77, 200, 0), over);
    due("20 nights", x.drawn(77, 200, 1), over);
    x.goer(60, 0);
    due("all together", x.drawn(77, 200, 0), over);
    due("never all", x.drawn(77, 200, 1), 0);
    due("from WEAK as now each night", withGoers(30, 1, 1, 1).drawn(1, 200, 0), 40);
    due("nobody: all", new HeaviestLast().drawn(1, 30, 1), 3);
    int[] bad = {9, 13, 0, -10, 210, 203, 2000, MIN, MAX};
    for (int nw : bad) due("BAD", x.drawn(1, nw, 0), BAD);
    due("no such what", x.drawn(1, 10, 2), BAD);
    due("no such what", x.drawn(1, 10, -1), BAD);
    due("in thought", x.of(0, 12), 0);
  }

  // ---- 23 to 27

  private static void deeds() {
    HeaviestLast x = four();
    promise = 23;
    due("over", x.go(0, 0), 1);
    due("it fell", x.go(3, 0), 0);
    due("where it fell: 99, 2 back", x.of(0, 10), 97);
    due("no further", x.of(1, 10), 1);
    due("fell where it is weak", x.go(1, 0), 0);
    due("NOW", x.of(0, 12), 6);
    for (int[] b : new int[][] {{4, 0}, {-1, 0}, {0, 3}, {0, -1}, {MIN, MAX}}) due("BAD", x.go(b[0], b[1]), BAD);
    due("nothing went", x.of(0, 12), 6);
    HeaviestLast inner = withGoers(30, 1);
    inner.mend(5, 0, 29);
    due("falls in the middle", inner.go(0, 0), 0);
    due("there", inner.led(4), 5);
    due("ahead of it", inner.of(4, 10), 0);
    due("behind it", inner.of(6, 10), 0);
    due("99 less 2", inner.of(5, 10), 97);
    HeaviestLast lying = withGoers(59, 0);
    due("59 is too much", lying.go(0, 1), 0);
    lying.mend(0, 5, 1);
    due("30 is not", lying.go(0, 0), 1);
    due("2, and twice 2 minutes", lying.of(0, 12), 6);
    lying.mend(16, 2, 12);
    due("THIN is left out", lying.go(0, 2), 1);

    promise = 24;
    due("BAD", x.stay(0), BAD);
    due("BAD", x.stay(1000), BAD);
    due("BAD", x.stay(MIN), BAD);
    due("BAD", x.stay(MAX), BAD);
    due("NOW", x.stay(4), 10);
    due("4 back", x.of(0, 10), 93);
    x.mend(0, 1, 9);
    x.stay(10);
    due("9 a minute", x.of(0, 10), 3);
    x.stay(999);
    due("0 at least", x.of(0, 10), 0);
    for (int n = 0; n < 8; n++) x.stay(999);
    due("not so far", x.stay(989), STATE);
    due("NOW", x.stay(988), 9999);
    due("no further", x.stay(1), STATE);
    due("BAD ahead of STATE", x.stay(0), BAD);
    due("one still goes", x.go(0, 0), 0);
    due("beyond it", x.of(0, 12), 10001);

    led();
  }

  private static void led() {
    promise = 25;
    HeaviestLast x = withGoers(20, 0, 50, 0, 40, 0);
    x.mend(2, 5, 1);
    x.go(0, 0);
    x.go(1, 1);
    x.go(2, 2);
    x.go(1, 2);
    int[] due = {4, 2, 2, 40, 16};
    for (int k = 0; k < 5; k++) due("led", x.led(k), due[k]);
    due("no such what", x.led(5), BAD);
    due("no such what", x.led(-1), BAD);
    x.mend(2, 4, 10);
    due("what it weighed then", x.led(3), 40);

    promise = 27;
    due("there is none", x.back(), STATE);
    promise = 26;
    due("NOW", x.image(), 10);
    x.go(0, 0);
    x.go(2, 0);
    x.stay(9);
    x.mend(5, 0, 77);
    due("crossings", x.led(0), 6);
    promise = 27;
    due("NOW", x.back(), 10);
    for (int k = 0; k < 5; k++) due("led", x.led(k), due[k]);
    due("WEAK: 99, 6 minutes", x.of(8, 10), 99 - 8);
    due("WEAK: 99, 2 minutes", x.of(16, 10), 97);
    due("a change stays", x.of(5, 0), 77);
    x.stay(3);
    due("it can be laid back again", x.back(), 10);
    x.stay(3);
    due("a newer one", x.image(), 13);
    x.stay(3);
    due("a newer one", x.back(), 13);
    due("an image is no change", x.count(3), 3);
  }

  // ---- 28, 29

  private static void changes() {
    promise = 28;
    HeaviestLast x = withGoers(20, 7);
    due("none", x.undo(), STATE);
    x.mend(3, 0, 50);
    x.mend(3, 0, 50);
    x.mend(0, 4, 21);
    x.mend(0, 8, 5);
    due("the same is none", x.count(3), 3);
    due("two may still be", x.undo(), 2);
    due("SUNNY", x.of(0, 8), 999);
    due("WEIGHT", x.of(0, 4), 21);
    due("one may still be", x.undo(), 1);
    due("WEIGHT", x.of(0, 4), 20);
    promise = 29;
    due("one again", x.redo(), 1);
    due("WEIGHT", x.of(0, 4), 21);
    x.mend(0, 4, 21);
    due("the same does not hinder", x.redo(), 0);
    due("SUNNY", x.of(0, 8), 5);
    due("none", x.redo(), STATE);
    x.undo();
    x.mend(7, 3, 1);
    due("another came behind", x.redo(), STATE);
    due("SUNNY", x.of(0, 8), 999);
    promise = 28;
    due("three", x.count(3), 3);
    x = withGoers(20, 7);
    for (int v = 1; v <= 45; v++) x.mend(1, 3, 10 + v);
    due("40 are kept", x.count(3), 40);
    for (int n = 39; n >= 0; n--) due("undo", x.undo(), n);
    due("none", x.undo(), STATE);
    due("the first five stay", x.of(1, 3), 15);
    promise = 29;
    for (int n = 39; n >= 0; n--) due("redo", x.redo(), n);
    due("all again", x.of(1, 3), 55);
    due("none", x.redo(), STATE);
    x.undo();
    x.go(0, 0);
    x.stay(1);
    x.goer(1, 1);
    due("deeds are no changes", x.redo(), 0);
  }

  // ---- 30, 31, 32

  private static void act(HeaviestLast x, int body, int act, int arg, int want, int... trace) {
    promise = 31;
    due("act(" + body + ", " + act + ", " + arg + ")", x.act(body, act, arg), want);
    promise = 32;
    for (int i = 0; i < trace.length; i++) due("trace", x.trace(i), trace[i]);
    due("no more", x.trace(trace.length), BAD);
    due("none ahead", x.trace(-1), BAD);
    promise = 39;
    due("bodies that ran", x.count(5), trace.length);
  }

  private static void acts() {
    promise = 30;
    HeaviestLast x = new HeaviestLast();
    due("BAD", x.body(-1), BAD);
    due("BAD", x.body(8), BAD);
    for (int kind = 0; kind < 8; kind++) due("its number", x.body(kind), kind);
    promise = 32;
    due("none yet", x.trace(0), BAD);
    act(x, 0, 0, 5, 5, 1);
    act(x, 0, 1, 5, 10, 10, 1);
    act(x, 0, 2, 5, 5, 11);
    act(x, 0, 3, 5, 9, 2, 10, 1, 11);
    act(x, 1, 0, 5, 9, 20, 1);
    act(x, 1, 1, 5, 18, 10, 20, 1);
    act(x, 1, 3, 5, 18, 2, 10, 20, 1, 11);
    act(x, 2, 0, 5, 7, 1);
    act(x, 2, 1, 5, -14, 30, 10, 1);
    act(x, 2, 3, 5, -17, 2, 30, 10, 1, 11);
    act(x, 3, 1, 5, -18, 41, 30, 10, 1);
    act(x, 3, 2, 5, 18, 40, 11);
    act(x, 3, 3, 5, -24, 2, 41, 30, 10, 1, 40, 11);
    act(x, 4, 2, 5, -8, 50, 11, 20, 1);
    act(x, 4, 1, 5, 24, 10, 20, 1);
    act(x, 5, 0, 4, 9, 1);
    // -(5 + 5) * 2 less (1 ^ 5) * 3 is -32, and -32 ^ 5 is -27
    act(x, 5, 3, 4, -27, 60, 2, 41, 30, 10, 1, 40, 11);
    act(x, 6, 0, 5, 22, 70, 1);
    act(x, 6, 1, 5, 44, 10, 70, 1);
    act(x, 6, 3, 5, 37, 2, 10, 70, 1, 11);
    // goes(5) is 15, waits(2) is 5 less 12, waits(1) is 6 less 12
    act(x, 7, 1, 5, 23, 80, 10, 20, 1, 50, 11, 20, 1);
    act(x, 7, 3, 5, 28, 81, 2, 80, 10, 20, 1, 50, 11, 20, 1, 50, 11, 20, 1);
    act(x, 0, 1, MAX, -2, 10, 1);
    act(x, 8, 0, 5, 0);
    act(x, 0, 0, 5, 5, 1);
    act(x, -1, 0, 5, 0);
    act(x, 0, 0, 5, 5, 1);
    act(x, 0, 4, 5, 0);
    act(x, 0, -1, 5, 0);
    promise = 30;
    for (int n = 8; n < 50; n++) due("its number", x.body(0), n);
    due("the 51st", x.body(0), FULL);
    due("BAD ahead of FULL", x.body(8), BAD);
    act(x, 49, 0, 1, 50, 1);
  }

  // ---- 33 to 39

  private static void shelves() {
    promise = 33;
    HeaviestLast x = new HeaviestLast();
    x.body(0);
    x.body(7);
    due("nothing", x.keep(0, -1), 1);
    due("a body", x.keep(0, 1), 1);
    for (int[] b : new int[][] {{0, 2}, {0, -2}, {6, 0}, {-1, 0}, {0, MIN}, {0, MAX}}) due("BAD", x.keep(b[0], b[1]), BAD);
    due("it is still there", x.taken(0, 7), 7);
    promise = 38;
    int[] under = {0, 1, 4, 7};
    for (int k : under) due("under it", x.taken(0, k), 7);
    for (int k : new int[] {2, 3, 5, 6}) due("not under it", x.taken(0, k), -12);
    due("no kind", x.taken(0, 8), BAD);
    due("no kind", x.taken(0, -1), BAD);
    due("no shelf", x.taken(6, 0), BAD);
    due("nothing", x.taken(1, 0), -11);
    x.row(1, 0, 3);
    due("a row", x.taken(1, 0), -12);
    x.keep(1, 0);
    due("ORDER", x.taken(1, 0), 0);
    due("above it", x.taken(1, 1), -12);
    int[][] ups = {{0}, {1, 0}, {2, 0}, {3, 2, 0}, {4, 1, 0}, {5, 3, 2, 0}, {6, 0}, {7, 4, 1, 0}};
    for (int kind = 0; kind < 8; kind++) {
      HeaviestLast y = new HeaviestLast();
      y.keep(5, y.body(kind));
      for (int k = 0; k < 8; k++) {
        boolean is = false;
        for (int up : ups[kind]) is |= up == k;
        due("kinds", y.taken(5, k), is ? kind : -12);
      }
    }
    x.keep(1, -1);
    due("nothing again", x.taken(1, 0), -11);
    rows();
    shifts();
    counts();
  }

  private static void rows() {
    promise = 34;
    HeaviestLast x = new HeaviestLast();
    int[][] bad = {{6, 0, 1}, {-1, 0, 1}, {0, 5, 1}, {0, -1, 1}, {0, 0, 61}, {0, 0, MAX}, {0, 5, -1}, {6, 0, -1}};
    for (int[] b : bad) due("BAD", x.row(b[0], b[1], b[2]), BAD);
    due("below 0", x.row(0, 0, -1), -14);
    due("below 0", x.row(0, 4, MIN), -14);
    due("nothing is there still", x.put(0, 0, 1), -11);
    for (int sort = 0; sort < 5; sort++) due("a row", x.row(sort, sort, 60), 1);
    due("of none", x.row(5, 0, 0), 1);
    promise = 35;
    long v = 0x123456789abcdef0L;
    for (int s = 0; s < 5; s++) {
      due("0 at first", x.element(s, 59), 0);
      due("put", x.put(s, 59, v), 1);
      due("put", x.put(s, 0, 255), 1);
    }
    promise = 36;
    long[] kept = {(byte) v, (short) v, (int) v, v, 1};
    for (int s = 0; s < 5; s++) due("its lowest bits", x.element(s, 59), kept[s]);
    due("a byte", x.element(0, 0), -1);
    due("a short", x.element(1, 0), 255);
    x.put(4, 0, 0);
    due("false", x.element(4, 0), 0);
    x.put(4, 0, 256);
    due("true", x.element(4, 0), 1);
    x.body(0);
    x.keep(4, 0);
    x.keep(3, -1);
    promise = 35;
    int[] refused = {x.put(6, 0, 1), x.put(-1, 0, 1), x.put(3, 0, 1), x.put(4, 0, 1), x.put(0, 60, 1), x.put(0, -1, 1),
        x.put(5, 0, 1), x.put(3, -1, 1), x.put(4, 99, 1), x.put(0, MIN, 1), x.put(0, MAX, 1)};
    int[] why = {BAD, BAD, -11, -12, -13, -13, -13, -11, -12, -13, -13};
    for (int i = 0; i < why.length; i++) due("put refused", refused[i], why[i]);
    promise = 36;
    long[] no = {x.element(6, 0), x.element(-1, 0), x.element(3, 0), x.element(4, 0), x.element(0, 60), x.element(0, -1),
        x.element(5, 0), x.element(0, MIN), x.element(0, MAX)};
    for (long n : no) due("refused", n, REFUSED);
    promise = 34;
    x.row(0, 2, 60);
    due("a new row is 0", x.element(0, 59), 0);
    x.row(0, 2, 3);
    due("a shorter one", x.put(0, 3, 1), -13);
  }

  private static void shifts() {
    promise = 37;
    HeaviestLast x = new HeaviestLast();
    row(x, 0, 1, 2, 3, 4, 5);
    row(x, 1, 9, 9, 9);
    due("to another", x.shift(0, 1, 1, 0, 2), 2);
    due("to another", x.element(1, 0), 2);
    due("to another", x.element(1, 1), 3);
    due("no more", x.element(1, 2), 9);
    due("to itself, upward", x.shift(0, 0, 0, 1, 4), 4);
    int[] up = {1, 1, 2, 3, 4};
    for (int i = 0; i < 5; i++) due("as they were", x.element(0, i), up[i]);
    due("to itself, downward", x.shift(0, 1, 0, 0, 4), 4);
    int[] down = {1, 2, 3, 4, 4};
    for (int i = 0; i < 5; i++) due("as they were", x.element(0, i), down[i]);
    due("none", x.shift(0, 5, 1, 3, 0), 0);
    int[][] places = {{0, 6, 1, 0, 0}, {0, 0, 1, 4, 0}, {0, -1, 1, 0, 1}, {0, 0, 1, -1, 1}, {0, 0, 1, 0, 4}, {0, 4, 1, 0, 2},
        {0, 0, 1, 2, 2}, {0, 0, 1, 0, -1}, {0, MAX, 1, 0, 1}, {0, 1, 1, 0, MAX}, {0, 0, 1, MAX, MAX}, {0, MIN, 1, 0, MIN}};
    for (int[] p : places) due("no such place", x.shift(p[0], p[1], p[2], p[3], p[4]), -13);
    x.row(2, 1, 5);
    x.body(0);
    x.keep(3, 0);
    due("unlike sorts", x.shift(0, 0, 2, 0, 1), -12);
    due("no row", x.shift(3, 0, 0, 0, 1), -12);
    due("no row", x.shift(0, 0, 3, 0, 1), -12);
    due("no rows", x.shift(3, 0, 3, 0, 0), -12);
    due("nothing", x.shift(4, 0, 0, 0, 1), -11);
    due("nothing", x.shift(0, 0, 4, 0, 1), -11);
    due("nothing ahead of another kind", x.shift(3, 0, 4, -1, 1), -11);
    due("another kind ahead of a place", x.shift(0, -1, 2, 0, 1), -12);
    due("no shelf", x.shift(6, 0, 0, 0, 1), BAD);
    due("no shelf", x.shift(0, 0, 6, 0, 1), BAD);
    due("no shelf ahead of nothing", x.shift(4, 0, -1, 0, 1), BAD);
    for (int i = 0; i < 5; i++) due("nothing changed", x.element(0, i), down[i]);
  }

  private static void counts() {
    promise = 39;
    HeaviestLast x = withGoers(20, 2, 20, 7);
    due("GOERS", x.count(0), 2);
    x.go(0, 0);
    due("none is weak: 2 taken, 2 back", x.count(1), 0);
    x.go(1, 0);
    due("a way is weak", x.count(1), 8);
    x.mend(20, 0, 19);
    x.go(1, 2);
    due("4 of another: 3 ahead of the fall have 5, it 97, the first way 3", x.count(1), 13);
    x.feed('1');
    x.feed('2');
    due("bytes", x.count(2), 2);
    due("changes", x.count(3), 1);
    x.undo();
    due("changes", x.count(3), 0);
    x.body(3);
    due("BODIES", x.count(4), 1);
    due("none ran", x.count(5), 0);
    x.act(0, 3, 1);
    due("bodies that ran", x.count(5), 7);
    due("no such what", x.count(6), BAD);
    due("no such what", x.count(-1), BAD);
  }
}
