/** Edges of promises 1 to 5: the new object, goers, squares and their numbers. */
final class SquareEdges extends Edges {

  // ---- 1

  @Edge(promise = 1, says = "Three ways over, nobody to go.")
  static void threeWaysAndNobody() {
    HeaviestLast x = new HeaviestLast();
    due("nobody", x.count(0), 0);
    for (int way = 0; way < 3; way++) due("nobody goes", x.go(0, way), BAD);
    x.goer(1, 0);
    for (int way = 0; way < 3; way++) due("a way", x.go(0, way), 1);
    due("no fourth way", x.go(0, 3), BAD);
    due("none ahead of the first", x.go(0, -1), BAD);
  }

  @Edge(promise = 1, says = "An object is used for at most 512 calls after it has been made; what later calls answer is free.")
  static void theLastCallsThatCount() {
    HeaviestLast x = new HeaviestLast();
    for (int call = 1; call <= 510; call++) x.of(0, NOW);
    due("the 511th", x.goer(8, 5), 0);
    due("the 512th", x.of(0, WEIGHT), 8);
  }

  @Edge(promise = 1, says = "public static final int BAD = -1, NOT = -2, FULL = -3, STATE = -5, VOID = -2000000000;")
  static void constants() {
    due("BAD", HeaviestLast.BAD, -1);
    due("NOT", HeaviestLast.NOT, -2);
    due("FULL", HeaviestLast.FULL, -3);
    due("STATE", HeaviestLast.STATE, -5);
  }

  @Edge(promise = 1, says = "VOID is -2000000000.")
  static void theVoid() {
    due("VOID", HeaviestLast.VOID, -2000000000);
  }

  @Edge(promise = 1, says = "2 of eight SQUARES each (SQUARE 0 .. 23: 8 times the WAY and its place):")
  static void eightSquaresOfEachWay() {
    for (int way = 0; way < 3; way++) {
      HeaviestLast x = withGoers(1, 9);
      x.go(0, way);
      for (int q = 0; q < 24; q++) due("way " + way + ", square " + q, x.of(q, WEAK), q / 8 == way ? 7 : 0);
      due("no square ahead", x.of(-1, WEAK), BAD);
      due("no square behind", x.of(24, WEAK), BAD);
    }
  }

  @Edge(promise = 1, says = "STRENGTH (0 .. 99; 30 at first)")
  static void firstStrength() {
    dueAtFirst(STRENGTH, 30);
  }

  @Edge(promise = 1, says = "WEAK (0 .. 99; 0 at first: how much less it bears now)")
  static void firstWeak() {
    dueAtFirst(WEAK, 0);
    dueAtFirst(BEARS, 30);
  }

  @Edge(promise = 1, says = "MENDS (0 .. 9 a minute; 1 at first)")
  static void firstMends() {
    dueAtFirst(MENDS, 1);
  }

  @Edge(promise = 1, says = "THIN (0 .. 12; 0 at first: in so many of twelve it bears LESS less)")
  static void firstThin() {
    dueAtFirst(THIN, 0);
  }

  @Edge(promise = 1, says = "LESS (0 .. 99; 10 at first)")
  static void firstLess() {
    dueAtFirst(LESS, 10);
  }

  @Edge(promise = 1, says = "SUNNY: the minute (0 .. 999; 999 at first)")
  static void firstSunny() {
    due("SUNNY", new HeaviestLast().of(0, SUNNY), 999);
  }

  @Edge(promise = 1, says = "NOW: the minute it is (0 at first).")
  static void firstNow() {
    due("NOW", new HeaviestLast().of(0, NOW), 0);
  }

  private static void dueAtFirst(int what, int v) {
    HeaviestLast x = new HeaviestLast();
    for (int q = 0; q < 24; q++) due("square " + q, x.of(q, what), v);
  }

  // ---- 2

  @Edge(promise = 2, says = "GOERS 0 .. 6, as they come:")
  static void numbersAsTheyCome() {
    HeaviestLast x = new HeaviestLast();
    for (int g = 0; g < 7; g++) {
      due("not there yet", x.of(g, WEIGHT), BAD);
      due("its number", x.goer(g + 1, 0), g);
      due("its WEIGHT", x.of(g, WEIGHT), g + 1);
    }
    due("none ahead", x.of(-1, WEIGHT), BAD);
    due("none behind", x.of(7, WEIGHT), BAD);
  }

  @Edge(promise = 2, says = "A GOER of WEIGHT and TAKES: its number. BAD, FULL: 7.")
  static void sevenAreFull() {
    HeaviestLast x = withLight(6);
    due("the seventh", x.goer(60, 60), 6);
    due("the eighth", x.goer(60, 60), FULL);
    due("the ninth", x.goer(1, 0), FULL);
    due("a wrong WEIGHT is BAD ahead of FULL", x.goer(0, 0), BAD);
    due("a wrong TAKES is BAD ahead of FULL", x.goer(1, 61), BAD);
    due("seven", x.count(0), 7);
  }

  @Edge(promise = 2, says = "WEIGHT (1 .. 60)")
  static void weightOfAGoer() {
    HeaviestLast x = new HeaviestLast();
    for (int weight : new int[] {0, -1, 61, MIN, MAX}) due("WEIGHT " + weight, x.goer(weight, 5), BAD);
    due("none came", x.count(0), 0);
    due("the least", x.goer(1, 5), 0);
    due("the most", x.goer(60, 5), 1);
    due("the least", x.of(0, WEIGHT), 1);
    due("the most", x.of(1, WEIGHT), 60);
  }

  @Edge(promise = 2, says = "TAKES (0 .. 60; 5 at first)")
  static void takesOfAGoer() {
    HeaviestLast x = new HeaviestLast();
    for (int takes : new int[] {-1, 61, MIN, MAX}) due("TAKES " + takes, x.goer(5, takes), BAD);
    due("none came", x.count(0), 0);
    due("the least", x.goer(5, 0), 0);
    due("the most", x.goer(5, 60), 1);
    due("the least", x.of(0, TAKES), 0);
    due("the most", x.of(1, TAKES), 60);
  }

  @Edge(promise = 2, says = "LIES (0, 1; 0 at first:")
  static void nobodyLiesAtFirst() {
    due("LIES", withGoers(5, 5).of(0, LIES), 0);
  }

  @Edge(promise = 2, says = "PACE (1 .. 9 minutes; 2 at first)")
  static void firstPace() {
    due("PACE", withGoers(5, 5).of(0, PACE), 2);
  }

  // ---- 3

  @Edge(promise = 3, says = "n (1 .. 7) of them: how many came.")
  static void howManyAreWanted() {
    HeaviestLast x = new HeaviestLast();
    rowOf(x, 0, 60, 1);
    for (int n : new int[] {0, -1, 8, MIN, MAX}) due("n " + n, x.goers(0, 0, n), BAD);
    due("none came", x.count(0), 0);
    due("one", x.goers(0, 0, 1), 1);
    due("one came", x.count(0), 1);
    x = new HeaviestLast();
    rowOf(x, 0, 60, 1);
    due("seven", x.goers(0, 0, 7), 7);
    due("seven came", x.count(0), 7);
  }

  @Edge(promise = 3, says = "BAD, -12 (no ROW of bytes; a SHELF that holds nothing is missing).")
  static void rowsOfOtherKinds() {
    HeaviestLast x = new HeaviestLast();
    x.body(0);
    x.keep(1, 0);
    for (int shelf : new int[] {-1, 6, MIN, MAX}) due("shelf " + shelf, x.goers(shelf, 0, 1), BAD);
    due("a body", x.goers(1, 0, 1), OTHER_KIND);
    due("a body, from below 0", x.goers(1, -1, 1), OTHER_KIND);
    due("BAD ahead of -12", x.goers(1, 0, 0), BAD);
    for (int sort = 1; sort < 5; sort++) {
      x.row(2, sort, 3);
      for (int i = 0; i < 3; i++) x.put(2, i, 1);
      due("a row of sort " + sort, x.goers(2, 0, 1), OTHER_KIND);
    }
    due("none came", x.count(0), 0);
  }

  @Edge(promise = 3, says = "it ends where the row is missing,")
  static void aRowThatIsMissing() {
    HeaviestLast x = new HeaviestLast();
    for (int i : new int[] {0, 1, -1, 60, MIN, MAX}) due("from " + i, x.goers(0, i, 1), 0);
    due("the last shelf", x.goers(5, 0, 7), 0);
    row(x, 0, 5, 5, 5);
    x.keep(0, -1);
    due("missing again", x.goers(0, 0, 1), 0);
    due("none came", x.count(0), 0);
    due("BAD ahead of it", x.goers(0, 0, 0), BAD);
  }

  @Edge(promise = 3, says = "ends (within a three, too),")
  static void aRowThatEnds() {
    int[] came = {0, 0, 0, 1, 1, 1, 2};
    for (int length = 0; length < came.length; length++) {
      HeaviestLast x = new HeaviestLast();
      rowOf(x, 0, length, 1);
      due("a row of " + length, x.goers(0, 0, 7), came[length]);
      due("those ahead came", x.count(0), came[length]);
    }
    HeaviestLast x = new HeaviestLast();
    rowOf(x, 0, 60, 1);
    for (int i : new int[] {58, 59, 60, 61, -1, -2, -3, MIN, MAX, MAX - 2}) due("from " + i, x.goers(0, i, 7), 0);
    due("none came", x.count(0), 0);
    due("the last three", x.goers(0, 57, 7), 1);
    due("from the last but one on", x.goers(0, 54, 7), 2);
  }

  @Edge(promise = 3, says = "GOERS FROM A ROW of bytes, from a place on: by threes WEIGHT, TAKES, PACE: n of them;")
  static void fromAPlaceOn() {
    HeaviestLast x = new HeaviestLast();
    row(x, 0, 99, 60, 0, 1, 1, 60, 9, 2, 3, 4);
    due("two from place 1 on", x.goers(0, 1, 2), 2);
    int[][] due = {{60, 0, 0, 1}, {1, 0, 60, 9}};
    for (int g = 0; g < 2; g++) {
      for (int what = WEIGHT; what <= PACE; what++) due("goer " + g, x.of(g, what), due[g][what - WEIGHT]);
    }
  }

  @Edge(promise = 3, says = "one is not so,")
  static void oneThatIsNotSo() {
    int[][] wrong = {{0, 5, 5}, {61, 5, 5}, {-1, 5, 5}, {-128, 5, 5}, {127, 5, 5}, {5, -1, 5}, {5, 61, 5}, {5, 127, 5},
        {5, 5, 0}, {5, 5, 10}, {5, 5, -1}, {5, 5, 127}};
    for (int[] w : wrong) {
      HeaviestLast x = new HeaviestLast();
      row(x, 0, 5, 5, 5, w[0], w[1], w[2], 5, 5, 5);
      due("it ends there", x.goers(0, 0, 3), 1);
      due("it is the first", x.goers(0, 3, 2), 0);
      due("those ahead came", x.count(0), 1);
    }
  }

  @Edge(promise = 3, says = "or GOERS are FULL: those ahead came.")
  static void goersWhoFindNoRoom() {
    HeaviestLast x = withLight(5);
    rowOf(x, 0, 9, 1);
    due("two of three", x.goers(0, 0, 3), 2);
    due("they came", x.count(0), 7);
    due("full", x.goers(0, 0, 1), 0);
    due("seven", x.count(0), 7);
  }

  // ---- 4

  /** The least and the most that a number may become, and what is beyond. */
  private static void dueBounds(int what, int least, int most) {
    int last = what <= LESS ? 23 : what <= PACE ? 6 : 0;
    for (int number : new int[] {0, last}) {
      HeaviestLast x = withGoers(20, 7, 20, 7, 20, 7, 20, 7, 20, 7, 20, 7, 20, 7);
      int first = x.of(number, what);
      for (int v : new int[] {least - 1, most + 1, MIN, MAX}) due("v " + v, x.mend(number, what, v), BAD);
      due("nothing changed", x.of(number, what), first);
      due("no change is kept", x.count(3), 0);
      due("the least", x.mend(number, what, least), first);
      due("the most", x.mend(number, what, most), least);
      due("one more", x.mend(number, what, most + 1), BAD);
      due("it is the most", x.of(number, what), most);
      due("one less than the least", x.mend(number, what, least - 1), BAD);
      due("the least again", x.mend(number, what, least), most);
      due("it is the least", x.of(number, what), least);
    }
  }

  @Edge(promise = 4, says = "STRENGTH (0 .. 99; 30 at first)")
  static void boundsOfStrength() {
    dueBounds(STRENGTH, 0, 99);
  }

  @Edge(promise = 4, says = "MENDS (0 .. 9 a minute; 1 at first)")
  static void boundsOfMends() {
    dueBounds(MENDS, 0, 9);
  }

  @Edge(promise = 4, says = "THIN (0 .. 12; 0 at first: in so many of twelve it bears LESS less)")
  static void boundsOfThin() {
    dueBounds(THIN, 0, 12);
  }

  @Edge(promise = 4, says = "LESS (0 .. 99; 10 at first)")
  static void boundsOfLess() {
    dueBounds(LESS, 0, 99);
  }

  @Edge(promise = 4, says = "WEIGHT (1 .. 60)")
  static void boundsOfWeight() {
    dueBounds(WEIGHT, 1, 60);
  }

  @Edge(promise = 4, says = "LIES (0, 1; 0 at first:")
  static void boundsOfLies() {
    dueBounds(LIES, 0, 1);
  }

  @Edge(promise = 4, says = "TAKES (0 .. 60; 5 at first)")
  static void boundsOfTakes() {
    dueBounds(TAKES, 0, 60);
  }

  @Edge(promise = 4, says = "PACE (1 .. 9 minutes; 2 at first)")
  static void boundsOfPace() {
    dueBounds(PACE, 1, 9);
  }

  @Edge(promise = 4, says = "SUNNY: the minute (0 .. 999; 999 at first)")
  static void boundsOfSunny() {
    dueBounds(SUNNY, 0, 999);
  }

  @Edge(promise = 4, says = "SUNNY (8; number 0) becomes v: what it was. BAD.")
  static void whatCanBeMended() {
    HeaviestLast x = withLight(2);
    for (int what : new int[] {-1, 9, 10, 11, 12, 13, MIN, MAX}) due("what " + what, x.mend(0, what, 1), BAD);
    for (int number : new int[] {-1, 24, MIN, MAX}) {
      for (int what = 0; what <= SUNNY; what++) due("number " + number, x.mend(number, what, 1), BAD);
    }
    for (int what = WEIGHT; what <= PACE; what++) due("no third goer", x.mend(2, what, 1), BAD);
    due("no second sun", x.mend(1, SUNNY, 1), BAD);
    due("nothing changed", x.count(3), 0);
    HeaviestLast nobody = new HeaviestLast();
    for (int what = WEIGHT; what <= PACE; what++) due("nobody", nobody.mend(0, what, 1), BAD);
  }

  // ---- 5

  @Edge(promise = 5, says = "As of mend() (0 to 8); of a SQUARE 10 WEAK, 11 what it BEARS now; number 0: 12 NOW. BAD.")
  static void whatCanBeAsked() {
    HeaviestLast x = withLight(2);
    for (int what : new int[] {-1, 9, 13, MIN, MAX}) due("what " + what, x.of(0, what), BAD);
    for (int number : new int[] {-1, 24, MIN, MAX}) {
      for (int what = 0; what <= NOW; what++) due("number " + number, x.of(number, what), BAD);
    }
    for (int what = WEIGHT; what <= PACE; what++) due("no third goer", x.of(2, what), BAD);
    due("no second sun", x.of(1, SUNNY), BAD);
    due("no second NOW", x.of(1, NOW), BAD);
    due("the last square", x.of(23, WEAK), 0);
    due("the last square", x.of(23, BEARS), 30);
    due("the last square", x.of(23, LESS), 10);
    due("the last goer", x.of(1, PACE), 2);
    due("nobody", new HeaviestLast().of(0, WEIGHT), BAD);
  }

  @Edge(promise = 5, says = "from which on each SQUARE bears 1 less for each further minute.")
  static void theSun() {
    HeaviestLast x = new HeaviestLast();
    x.stay(10);
    int[] sunny = {999, 11, 10, 9, 8, 0};
    int[] bears = {30, 30, 30, 29, 28, 20};
    for (int i = 0; i < sunny.length; i++) {
      x.mend(0, SUNNY, sunny[i]);
      for (int q : new int[] {0, 12, 23}) due("SUNNY " + sunny[i], x.of(q, BEARS), bears[i]);
    }
    HeaviestLast late = new HeaviestLast();
    late.stay(999);
    due("in minute 999", late.of(0, BEARS), 30);
    late.stay(1);
    due("in minute 1000", late.of(0, BEARS), 29);
  }

  @Edge(promise = 5, says = "It BEARS in a minute: STRENGTH less WEAK less what the sun takes (0 at least).")
  static void bearsNothingAtLeast() {
    HeaviestLast x = withGoers(1, 8, 60, 0);
    x.mend(0, SUNNY, 0);
    x.go(0, 0);
    due("30 less 6 less 2", x.of(0, BEARS), 22);
    x.mend(0, STRENGTH, 9);
    due("1 is left", x.of(0, BEARS), 1);
    x.mend(0, STRENGTH, 8);
    due("none is left", x.of(0, BEARS), 0);
    x.mend(0, STRENGTH, 7);
    due("not below 0", x.of(0, BEARS), 0);
    x.mend(0, STRENGTH, 0);
    due("not below 0", x.of(0, BEARS), 0);
    x.go(1, 1);
    due("by WEAK alone", x.of(8, BEARS), 0);
    x.stay(25);
    due("the sun has 29", x.of(16, BEARS), 1);
    x.stay(1);
    due("the sun has 30", x.of(16, BEARS), 0);
    x.stay(1);
    due("the sun has 31", x.of(16, BEARS), 0);
    x.mend(16, STRENGTH, 99);
    due("99 less 31", x.of(16, BEARS), 68);
  }

  @Edge(promise = 5, says = "WEAK (0 .. 99; 0 at first: how much less it bears now)")
  static void boundsOfWeak() {
    HeaviestLast x = hard(1, 60);
    x.go(0, 0);
    due("60", x.of(0, WEAK), 60);
    x.go(0, 0);
    due("99, not 120", x.of(0, WEAK), 99);
    x.mend(0, MENDS, 1);
    x.stay(98);
    due("1", x.of(0, WEAK), 1);
    x.stay(2);
    due("0, not -1", x.of(0, WEAK), 0);
  }
}
