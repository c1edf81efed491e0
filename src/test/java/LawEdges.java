/** Edges of promises 6 and 7: the tape and the law. */
final class LawEdges extends Edges {

  /** A goer of 8 and 5 goes in minute 7 over squares of 99: how weak place 3 is by a law. */
  private static int taken(String text) {
    HeaviestLast x = hard(8, 5);
    x.stay(7);
    int told = law(x, text);
    if (told != 1) return told;
    x.go(0, 0);
    return x.of(3, WEAK);
  }

  private static void dueTaken(String text, int want) {
    due(text, taken(text), want);
  }

  private static void dueFault(String text, int fault) {
    due(text, law(new HeaviestLast(), text), -100 - fault);
  }

  private static void dueText(String text) {
    due(text, law(new HeaviestLast(), text), 1);
  }

  private static String times(int many, String s) {
    return s.repeat(many);
  }

  // ---- 6

  @Edge(promise = 6, says = "A byte (0 .. 255) comes to THE TAPE: how many it has.")
  static void bytesOfTheTape() {
    HeaviestLast x = new HeaviestLast();
    for (int letter : new int[] {-1, 256, MIN, MAX}) due("letter " + letter, x.feed(letter), BAD);
    due("none came", x.count(2), 0);
    due("the least", x.feed(0), 1);
    due("the greatest", x.feed(255), 2);
    due("two", x.count(2), 2);
  }

  @Edge(promise = 6, says = "BAD, FULL (120).")
  static void aFullTape() {
    HeaviestLast x = new HeaviestLast();
    for (int n = 1; n <= 120; n++) due("how many", x.feed('1'), n);
    due("the 121st", x.feed('1'), FULL);
    due("BAD ahead of FULL", x.feed(256), BAD);
    due("BAD ahead of FULL", x.feed(-1), BAD);
    due("120", x.count(2), 120);
    x.law();
    due("there is room again", x.feed('1'), 1);
  }

  // ---- 7

  @Edge(promise = 7, says = "THE TAPE becomes THE LAW: 1; -100 less its FAULT; THE TAPE is empty then.")
  static void theTapeIsEmptyThen() {
    HeaviestLast x = hard(8, 5);
    due("a text", law(x, "6"), 1);
    due("empty", x.count(2), 0);
    due("a fault", law(x, "7+"), -102);
    due("empty, too", x.count(2), 0);
    due("an empty tape is no text", x.law(), -100);
    x.go(0, 0);
    due("the law is the latest text", x.of(0, WEAK), 6);
    due("another text", law(x, "7"), 1);
    x.go(0, 0);
    due("another law", x.of(0, WEAK), 13);
  }

  @Edge(promise = 7, says = "THE LAW is a TEXT by THE TAPE (at most 120 bytes):")
  static void theLongestText() {
    dueTaken("11" + times(59, "+1"), 70);
    dueTaken("1" + times(59, "+1"), 60);
    dueFault("1" + times(59, "+1") + "+", 120);
    dueTaken(times(29, "0?1;") + "0?77", 0);
    dueTaken(times(59, "0;") + "77", 0);
    dueTaken(times(29, "0?1;") + "1?77", 77);
    dueTaken(times(39, "!0|") + "!00", 1);
    // nothing in it that is not worked out: no bracket, no second digit
    dueTaken("-1" + times(59, "+1"), 58);
  }

  @Edge(promise = 7, says = "LINES, one or more, parted by ; .")
  static void lines() {
    dueFault("", 0);
    dueText("1");
    dueText("1;1");
    dueFault(";", 0);
    dueFault(";1", 0);
    dueFault("1;", 2);
    dueFault("1;;1", 2);
    dueFault("1;1;", 4);
  }

  @Edge(promise = 7, says = "LINE: E, or E ? E (what counts if the first is not 0).")
  static void askingLines() {
    dueTaken("0?5", 0);
    dueTaken("1?5", 5);
    dueTaken("-1?5", 5);
    dueTaken("9999*9999?5", 5);
    dueTaken("0|1?0|7", 1);
    dueTaken("1&0?5;2&3", 1);
    dueFault("?", 0);
    dueFault("?1", 0);
    dueFault("1?", 2);
    dueFault("1??1", 2);
    dueFault("1?1?1", 3);
    dueFault("(1?1)", 2);
    dueText("1?1;1?1");
  }

  @Edge(promise = 7, says = "E = A { | A }. A = B { & B }.")
  static void orAndAnd() {
    dueTaken("0|0|0|9", 1);
    dueTaken("1&1&1&0", 0);
    dueTaken("1|0&0", 1);
    dueTaken("0&0|1", 1);
    dueFault("1|", 2);
    dueFault("|1", 0);
    dueFault("1||1", 2);
    dueFault("1&", 2);
    dueFault("&1", 0);
    dueFault("1&&1", 2);
    dueFault("1|&1", 2);
  }

  @Edge(promise = 7, says = "B = S, or S < S, S = S, S > S.")
  static void oneComparisonAtMost() {
    String[] once = {"1<2", "2<2", "3<2", "1=2", "2=2", "1>2", "2>2", "3>2", "1+1<3", "1<2&2<3", "(1<2)<2"};
    int[] value = {1, 0, 0, 0, 1, 0, 0, 1, 1, 1, 1};
    for (int i = 0; i < once.length; i++) dueTaken(once[i], value[i]);
    for (String sign : new String[] {"<", "=", ">"}) {
      dueFault("1" + sign, 2);
      dueFault(sign + "1", 0);
      dueFault("1" + sign + "2<3", 3);
      dueFault("1" + sign + "2=3", 3);
      dueFault("1" + sign + "2+3>4", 5);
      dueFault("1" + sign + sign + "2", 2);
    }
  }

  @Edge(promise = 7, says = "S = P { + P, - P }. P = O { * O, / O, % O }.")
  static void sumsAndProducts() {
    dueTaken("20-5-3", 12);
    dueTaken("20-5+3", 18);
    dueTaken("80/4/5", 4);
    dueTaken("7*9%5", 3);
    dueTaken("2+3*4", 14);
    for (String sign : new String[] {"+", "-", "*", "/", "%"}) {
      dueFault("1" + sign, 2);
      dueFault("1" + sign + "*1", 2);
      if (!sign.equals("-")) dueFault(sign + "1", 0);
    }
  }

  @Edge(promise = 7, says = "O = a number (1 to 4 digits),")
  static void digits() {
    dueTaken("0", 0);
    dueTaken("9", 9);
    dueTaken("0099", 99);
    dueTaken("9999-9990", 9);
    dueFault("12345", 4);
    dueFault("00000", 4);
    dueFault("1+12345", 6);
    dueFault("123w", 3);
    dueText("1234;1234");
  }

  @Edge(promise = 7, says = "a NAME, ! O, - O, ( E ).")
  static void operands() {
    dueTaken("!0", 1);
    dueTaken("!7", 0);
    dueTaken("!!7", 1);
    dueTaken("--7", 7);
    dueTaken("-!0+3", 2);
    dueTaken("(((7)))", 7);
    dueTaken("!0+5", 6);
    String[] early = {"!", "-", "(", "(1", "((1)", "!-", "-("};
    for (String text : early) dueFault(text, text.length());
    dueFault("()", 1);
    dueFault(")", 0);
    dueFault("1)", 1);
    dueFault("(1))", 3);
    dueFault("1!", 1);
    dueFault("1(1)", 1);
    dueFault("(1)1", 3);
    dueFault("w1", 1);
    dueFault("ww", 1);
  }

  @Edge(promise = 7, says = "No blanks.")
  static void noBlanks() {
    dueFault(" 1", 0);
    dueFault("1 ", 1);
    dueFault("1 +1", 1);
    dueFault("1+ 1", 2);
    dueFault("1\t", 1);
    dueFault("1\n", 1);
    dueFault("1\u0000", 1);
  }

  @Edge(promise = 7, says = "NAMES: w what it weighs there, t TAKES, p PACE, b what the SQUARE BEARS, s its place in the WAY, m the minute.")
  static void names() {
    String known = "wtpbsm";
    for (int c = 0; c < 256; c++) {
      boolean operand = known.indexOf(c) >= 0 || c >= '0' && c <= '9';
      boolean opens = c == '(' || c == '!' || c == '-';
      due("byte " + c, law(new HeaviestLast(), String.valueOf((char) c)), operand ? 1 : opens ? -101 : -100);
    }
    dueTaken("w", 8);
    dueTaken("t", 5);
    dueTaken("p", 2);
    dueTaken("b", 99);
    dueTaken("m", 7);
    HeaviestLast x = hard(1, 0);
    law(x, "s");
    x.go(0, 0);
    for (int place = 0; place < 8; place++) due("place", x.of(place, WEAK), place);
    wholeWay(x, 2, MENDS, 0);
    x.go(0, 2);
    due("the first place of the last way", x.of(16, WEAK), 0);
    due("the last place of the last way", x.of(23, WEAK), 7);
  }

  @Edge(promise = 7, says = "At most 6 of ( ! - ahead of an O are open at once.")
  static void sixAreOpenAtMost() {
    for (String sign : new String[] {"!", "-"}) {
      dueText(times(6, sign) + "1");
      dueFault(times(7, sign) + "1", 6);
      dueText("1+" + times(6, sign) + "1");
      dueText(times(6, sign) + "1*" + times(6, sign) + "1");
      dueFault(times(6, sign) + "1*" + times(7, sign) + "1", 14);
    }
    dueText("((((((1))))))");
    dueFault("(((((((1)))))))", 6);
    dueText("((((((1))))))+((((((1))))))");
    dueText("!(-(!(1)))");
    dueFault("!(-(!(-1)))", 6);
    dueText("((((((1-1))))))");
    dueFault("((((((1--1))))))", 8);
    dueText("(((((1--1)))))");
    dueText("1?((((((1))))));------1");
    dueFault("1?(((((((1)))))))", 8);
    dueFault("1?-------1", 8);
    dueFault("1;!!!!!!!1", 8);
    dueFault("1;1?(((((((1)))))))", 10);
    dueText("(((((!1+!1)))))");
    dueFault("((((((", 6);
  }

  @Edge(promise = 7, says = "Ints that wrap;")
  static void intsThatWrap() {
    String least = "8192*8192*32";
    dueTaken(least + "<0", 1);
    dueTaken(least + "-1>0", 1);
    dueTaken(least + "-1+1<0", 1);
    dueTaken("-(" + least + ")<0", 1);
    dueTaken("-(" + least + ")=" + least, 1);
    dueTaken(least + "*2=0", 1);
    dueTaken(least + "/-1=" + least, 1);
    dueTaken(least + "%-1=0", 1);
    dueTaken("0-" + least + "<0", 1);
    dueTaken("(" + least + "-1)*2+2=0", 1);
  }

  @Edge(promise = 7, says = "/ and % toward 0, by 0 they give 0;")
  static void dividing() {
    dueTaken("-7/2+10", 7);
    dueTaken("7/-2+10", 7);
    dueTaken("-7/-2", 3);
    dueTaken("-7%4+10", 7);
    dueTaken("7%-4", 3);
    dueTaken("-7%-4+10", 7);
    dueTaken("7/0", 0);
    dueTaken("7%0", 0);
    dueTaken("-7/0+5", 5);
    dueTaken("-7%0+5", 5);
    dueTaken("0/0+5", 5);
    dueTaken("7/(t-5)+9", 9);
    dueTaken("8192*8192*32/0+9", 9);
  }

  @Edge(promise = 7, says = "| & < = > ! give 1, 0; all is worked out.")
  static void oneAndNought() {
    dueTaken("7|9", 1);
    dueTaken("0|-1", 1);
    dueTaken("0|0", 0);
    dueTaken("7&9", 1);
    dueTaken("7&-1", 1);
    dueTaken("7&0", 0);
    dueTaken("0&7", 0);
    dueTaken("!-1", 0);
    dueTaken("0&1/0", 0);
    dueTaken("1|1/0", 1);
    dueTaken("(7|9)+(7&9)+(1<2)+(2=2)+(2>1)+!0", 6);
    for (String no : new String[] {"(0|0)", "(7&0)", "(0&7)", "(2<2)", "(2=3)", "(2>2)", "!7", "!-7"}) dueTaken(no + "+5", 5);
  }

  @Edge(promise = 7, says = "The first LINE without a first E, or whose first E is not 0, counts; none: 0.")
  static void theFirstLineThatCounts() {
    dueTaken("5;6", 5);
    dueTaken("0;6", 0);
    dueTaken("0?5;6", 6);
    dueTaken("0?5;0?6;7", 7);
    dueTaken("1?5;6", 5);
    dueTaken("0?5;1?6;7", 6);
    dueTaken("0?5;0?6;0?7", 0);
    dueTaken("0?5", 0);
  }

  @Edge(promise = 7, says = "FAULT: the place (from 0) of the first byte with which no TEXT goes on; the length, if it ends too early.")
  static void theFirstFault() {
    dueFault("x", 0);
    dueFault("x)", 0);
    dueFault("1x)", 1);
    dueFault("1+*)", 2);
    dueFault("1;2;x;y", 4);
    dueFault("1?(2;3)", 4);
    dueFault("1\u00ff", 1);
    dueFault("1+", 2);
    dueFault("1?2;", 4);
    dueFault("(1+2", 4);
    dueFault("1" + times(59, "+1") + "x", 119);
  }

  @Edge(promise = 7, says = "It gives how much WEAKER a SQUARE becomes by it (held within 0 .. 99).")
  static void heldWithin() {
    dueTaken("-1", 0);
    dueTaken("0", 0);
    dueTaken("1", 1);
    dueTaken("98", 98);
    dueTaken("99", 99);
    dueTaken("100", 99);
    dueTaken("9999*9999", 99);
    dueTaken("-(9999*9999)", 0);
    dueTaken("8192*8192*32", 0);
    dueTaken("8192*8192*32-1", 99);
    HeaviestLast x = hard(1, 0);
    law(x, "50");
    x.go(0, 0);
    law(x, "-20");
    x.go(0, 0);
    due("never stronger", x.of(0, WEAK), 50);
  }

  @Edge(promise = 7, says = "Without a text: TAKES (lying: half, cut).")
  static void withoutAText() {
    int[] takes = {0, 1, 2, 3, 59, 60};
    int[] lying = {0, 0, 1, 1, 29, 30};
    for (int i = 0; i < takes.length; i++) {
      HeaviestLast x = hard(1, takes[i]);
      x.go(0, 0);
      due("TAKES " + takes[i], x.of(0, WEAK), takes[i]);
      HeaviestLast y = hard(1, takes[i]);
      y.mend(0, LIES, 1);
      law(y, "1+");
      y.go(0, 0);
      due("lying, TAKES " + takes[i], y.of(0, WEAK), lying[i]);
    }
  }
}
