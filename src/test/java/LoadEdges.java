import java.math.BigInteger;

/** Edges of promises 15 to 22: loads, several ways, unsure ice, cracks, told crossings, draws. */
final class LoadEdges extends Edges {

  // ---- 15

  @Edge(promise = 15, says = "A LOAD (gw: 10 times the GOER, and the WAY) in n parts: OVER there (n 1 .. 9), FEWEST (0; NOT). BAD.")
  static void whoLoadsByWhichWay() {
    HeaviestLast x = withLight(7);
    x.mend(6, WEIGHT, 60);
    x.mend(23, STRENGTH, 0);
    due("goer 0 by way 0", x.load(0, 1, 1), 1);
    due("goer 0 by way 2", x.load(2, 1, 1), 0);
    due("goer 5 by way 1", x.load(51, 1, 1), 1);
    due("goer 6 by way 1", x.load(61, 1, 1), 0);
    due("goer 6 by way 2", x.load(62, 1, 1), 0);
    for (int gw : new int[] {-1, -10, -11, 3, 9, 13, 63, 69, 70, 100, MIN, MAX}) {
      due("gw " + gw, x.load(gw, 1, 1), BAD);
      due("FEWEST, gw " + gw, x.load(gw, 1, 0), BAD);
    }
    for (int n : new int[] {-1, 10, MIN, MAX}) due("n " + n, x.load(0, 1, n), BAD);
    due("nobody", new HeaviestLast().load(0, 1, 1), BAD);
  }

  @Edge(promise = 15, says = "A LOAD of l (1 .. 200) by one GOER in n parts (1 .. 9; all alike, upward)")
  static void boundsOfLoads() {
    HeaviestLast x = withLight(1);
    x.mend(0, PACE, 9);
    for (int l : new int[] {0, -1, 201, MIN, MAX}) {
      due("l " + l, x.load(0, l, 1), BAD);
      due("FEWEST, l " + l, x.load(0, l, 0), BAD);
    }
    due("1 in one part", x.load(0, 1, 1), 1);
    due("1 in nine parts of 1", x.load(0, 1, 9), 9);
    due("200 in nine parts of 23", x.load(0, 200, 9), 9);
    due("200 in seven parts of 29", x.load(0, 200, 7), 7);
    due("200 in six parts of 34", x.load(0, 200, 6), 0);
    due("the fewest", x.load(0, 200, 0), 7);
    x.mend(0, WEIGHT, 29);
    due("9 in nine parts of 1", x.load(0, 9, 9), 9);
    due("10 in nine parts of 2", x.load(0, 10, 9), 0);
    due("8 in nine parts of 1", x.load(0, 8, 9), 9);
    due("nine is the fewest", x.load(0, 9, 0), 9);
  }

  @Edge(promise = 15, says = "FEWEST: the least n by which all do (no falling, back, too); NOT.")
  static void fewest() {
    HeaviestLast x = withGoers(10, 0);
    due("one part", x.load(0, 20, 0), 1);
    due("30 on the ice in two, 5 taken", x.load(0, 40, 2), 1);
    due("three parts", x.load(0, 40, 0), 3);
    due("23 in each of nine is too much", x.load(0, 200, 0), NOT);
    HeaviestLast back = withGoers(20, 11);
    wholeWay(back, 0, MENDS, 0);
    due("it falls on its way back", back.load(0, 2, 2), 1);
    due("one part needs no way back", back.load(0, 10, 0), 1);
    due("two would need one", back.load(0, 11, 0), NOT);
    back.mend(0, TAKES, 10);
    due("20 bear it back, but 10 no more part", back.load(0, 2, 2), 1);
    // only with a part it takes 20, and 9 come back: back 20 stand on 19
    HeaviestLast justNot = withGoers(20, 0);
    justNot.mend(0, PACE, 9);
    law(justNot, "w>20?20;0");
    due("it just does not get back", justNot.load(0, 2, 2), 1);
    law(justNot, "w>20?19;0");
    due("it just gets back", justNot.load(0, 2, 2), 2);
  }

  @Edge(promise = 15, says = "till all is over: how many get OVER there till one FALLS;")
  static void tillOneFalls() {
    HeaviestLast x = withGoers(10, 5);
    wholeWay(x, 0, MENDS, 0);
    due("the first falls", x.load(0, 42, 2), 0);
    // 5 are taken there and 5 back: 30, 20 and 10 bear three parts, and 5 do not bear it back
    x.mend(0, WEIGHT, 9);
    due("the third is the last", x.load(0, 9, 9), 3);
    due("three are enough", x.load(0, 3, 3), 3);
  }

  @Edge(promise = 15, says = "(It takes by TAKES and the part by 4, cut; THE LAW: t is that, lying not halved.)")
  static void whatALoadTakes() {
    // a second part is borne only if the first took no more than there was too much
    int[] part = {3, 4, 7, 8};
    int[] takes = {0, 1, 1, 2};
    for (int i = 0; i < part.length; i++) {
      HeaviestLast x = withGoers(10, 0);
      wholeWay(x, 0, MENDS, 0);
      wholeWay(x, 0, STRENGTH, 10 + part[i] + takes[i]);
      due("parts of " + part[i], x.load(0, 2 * part[i], 2), 2);
      wholeWay(x, 0, STRENGTH, 10 + part[i] + takes[i] - 1);
      due("one less bears", x.load(0, 2 * part[i], 2), takes[i] > 0 ? 1 : 0);
    }
    // 9 and 4 lying weigh 7; it takes 3 and 1, half is 2, and back 3, half is 1
    HeaviestLast lying = withGoers(9, 3);
    wholeWay(lying, 0, MENDS, 0);
    lying.mend(0, LIES, 1);
    wholeWay(lying, 0, STRENGTH, 10);
    due("7, less 2, less 1", lying.load(0, 8, 2), 2);
    wholeWay(lying, 0, STRENGTH, 9);
    due("one less bears", lying.load(0, 8, 2), 1);
    law(lying, "t");
    wholeWay(lying, 0, STRENGTH, 14);
    due("7, less 4, less 3", lying.load(0, 8, 2), 2);
    wholeWay(lying, 0, STRENGTH, 13);
    due("one less bears", lying.load(0, 8, 2), 1);
  }

  @Edge(promise = 15, says = "each time over with a part more on it, back without (SQUARES backward)")
  static void everySquareOnTheWayBack() {
    // 5 are taken there and 5 back, then 11 step on it: 21 are needed, wherever it is
    for (int square = 0; square < 24; square++) {
      HeaviestLast x = withGoers(10, 5);
      for (int way = 0; way < 3; way++) wholeWay(x, way, STRENGTH, way == square / 8 ? 99 : 0);
      x.mend(square, MENDS, 0);
      x.mend(square, STRENGTH, 21);
      due("21 on square " + square, x.load(square / 8, 2, 2), 2);
      x.mend(square, STRENGTH, 20);
      due("20 on square " + square, x.load(square / 8, 2, 2), 1);
    }
  }

  @Edge(promise = 15, says = "(THIN left out everywhere but where told).")
  static void loadLeavesThinOut() {
    due("THIN", allThin(29, 0).load(0, 1, 1), 1);
  }

  // ---- 16

  @Edge(promise = 16, says = "SEVERAL: how many (goer -1), the WAY of a GOER. BAD.")
  static void whoGoesByWhich() {
    HeaviestLast x = withLight(7);
    due("all", x.several(-1), 7);
    for (int g = 0; g < 7; g++) due("goer " + g, x.several(g), 0);
    for (int g : new int[] {-2, 7, MIN, MAX}) due("goer " + g, x.several(g), BAD);
    HeaviestLast nobody = new HeaviestLast();
    due("nobody", nobody.several(-1), 0);
    due("nobody", nobody.several(0), BAD);
    due("THIN is left out", allThin(30, 0).several(-1), 1);
  }

  @Edge(promise = 16, says = "(of like ones the first by numbers of WAYS, GOER 0's first): how many; the WAY of a GOER.")
  static void likePartings() {
    // each takes all that a way bears: three get over by one way each, a fourth falls wherever it goes
    HeaviestLast x = withGoers(30, 60, 30, 60, 30, 60, 30, 60);
    due("three of four", x.several(-1), 3);
    int[] ways = {0, 0, 1, 2};
    for (int g = 0; g < 4; g++) due("goer " + g, x.several(g), ways[g]);
    HeaviestLast heavy = withGoers(60, 0, 60, 0);
    due("all fall", heavy.several(-1), 0);
    for (int g = 0; g < 2; g++) due("goer " + g, heavy.several(g), 0);
    HeaviestLast last = withGoers(31, 0);
    wholeWay(last, 2, STRENGTH, 31);
    due("the last way alone", last.several(0), 2);
    last.mend(0, WEIGHT, 32);
    due("by none: the first way again", last.several(0), 0);
  }

  @Edge(promise = 16, says = "it is not over, no further.")
  static void whoFallsGoesNoFurther() {
    // by every way one of 20 falls at place 1, which comes back at once; place 6, which would not, is not reached
    HeaviestLast x = withGoers(40, 0, 5, 0);
    x.mend(0, LIES, 1);
    x.mend(0, PACE, 9);
    for (int way = 0; way < 3; way++) {
      x.mend(8 * way + 1, STRENGTH, 10);
      x.mend(8 * way + 1, MENDS, 9);
      x.mend(8 * way + 6, STRENGTH, 10);
      x.mend(8 * way + 6, MENDS, 0);
    }
    due("one of two", x.several(-1), 1);
    due("the other by the same way", x.several(1), 0);
  }

  // ---- 17

  private static void dueLikely(HeaviestLast x, long above, long below) {
    due("above the line", x.unsure(0, 0, 0), above);
    due("below the line", x.unsure(0, 0, 1), below);
  }

  @Edge(promise = 17, says = "how likely all of an ORDER (4 at most count) get OVER: a fraction in lowest terms.")
  static void fourCount() {
    HeaviestLast x = withGoers(25, 0, 60, 0);
    row(x, 0, 0, 0, 0, 1);
    dueLikely(x, 0, 1);
    row(x, 0, 0, 0, 0, 0, 1);
    dueLikely(x, 1, 1);
    row(x, 0);
    dueLikely(x, 1, 1);
    row(x, 0, 2, 1);
    dueLikely(x, 1, 1);
    row(x, 0, 0);
    x.mend(0, THIN, 4);
    dueLikely(x, 2, 3);
    x.mend(7, THIN, 3);
    dueLikely(x, 1, 2);
    x.mend(7, THIN, 12);
    dueLikely(x, 0, 1);
  }

  @Edge(promise = 17, says = "THIN (0 .. 12; 0 at first: in so many of twelve it bears LESS less)")
  static void fromSureToSurelyNot() {
    HeaviestLast x = withGoers(25, 0);
    row(x, 0, 0);
    long[] above = {1, 11, 5, 3, 2, 7, 1, 5, 1, 1, 1, 1, 0};
    long[] below = {1, 12, 6, 4, 3, 12, 2, 12, 3, 4, 6, 12, 1};
    for (int thin = 0; thin <= 12; thin++) {
      x.mend(3, THIN, thin);
      dueLikely(x, above[thin], below[thin]);
    }
    wholeWay(x, 0, THIN, 1);
    dueLikely(x, 214358881, 429981696);
    wholeWay(x, 0, THIN, 11);
    dueLikely(x, 1, 429981696);
  }

  @Edge(promise = 17, says = "Then the minutes pass (PACE, lying twice): each of the 24 SQUARES is less WEAK by MENDS a minute (0 at least).")
  static void minutesBetweenThem() {
    HeaviestLast x = withGoers(25, 7);
    row(x, 0, 0, 0);
    dueLikely(x, 1, 1);
    x.mend(0, TAKES, 8);
    dueLikely(x, 0, 1);
    x.mend(0, PACE, 3);
    dueLikely(x, 1, 1);
    x.mend(0, SUNNY, 0);
    dueLikely(x, 0, 1);
  }

  @Edge(promise = 17, says = "LESS (0 .. 99; 10 at first)")
  static void boundsOfLess() {
    HeaviestLast x = withGoers(25, 0);
    row(x, 0, 0);
    x.mend(3, THIN, 6);
    int[] less = {0, 5, 6, 99};
    int[] above = {1, 1, 1, 1};
    int[] below = {1, 1, 2, 2};
    for (int i = 0; i < less.length; i++) {
      x.mend(3, LESS, less[i]);
      dueLikely(x, above[i], below[i]);
    }
  }

  @Edge(promise = 17, says = "UNSURE. Long.MIN_VALUE, too: no ROW of bytes.")
  static void unsureRefuses() {
    HeaviestLast x = withLight(1);
    row(x, 0, 0);
    for (int part : new int[] {-1, 2, MIN, MAX}) due("part " + part, x.unsure(0, 0, part), REFUSED);
    for (int part = 0; part < 2; part++) {
      int p = part;
      dueRefusals((y, shelf, way) -> y.unsure(shelf, way, p), REFUSED, REFUSED, REFUSED);
    }
  }

  @Edge(promise = 17, says = "(part 0 above, 1 below the line; Long.MIN_VALUE: BAD).")
  static void partsOfAFraction() {
    HeaviestLast x = withGoers(25, 0);
    row(x, 0, 0);
    x.mend(0, THIN, 1);
    due("above", x.unsure(0, 0, 0), 11);
    due("below", x.unsure(0, 0, 1), 12);
    due("BAD", x.unsure(0, 3, 0), Long.MIN_VALUE);
  }

  // ---- 18

  @Edge(promise = 18, says = "BORE: how likely then (part 0, 1), the SQUARE (2; 0 .. 23). Long.MIN_VALUE likewise.")
  static void whichSquareToBore() {
    for (int square = 0; square < 24; square++) {
      HeaviestLast x = withGoers(25, 0);
      row(x, 0, 0);
      for (int place = 0; place < 8; place++) x.mend(square / 8 * 8 + place, THIN, 6);
      x.mend(square, THIN, 7);
      due("square " + square, x.bore(0, square / 8, 2), square);
      due("one of two to the seventh", x.bore(0, square / 8, 0), 1);
      due("one of two to the seventh", x.bore(0, square / 8, 1), 128);
    }
    HeaviestLast x = withLight(1);
    row(x, 0, 0);
    for (int part : new int[] {-1, 3, MIN, MAX}) due("part " + part, x.bore(0, 0, part), REFUSED);
    for (int part = 0; part < 3; part++) {
      int p = part;
      dueRefusals((y, shelf, way) -> y.bore(shelf, way, p), REFUSED, REFUSED, REFUSED);
    }
  }

  @Edge(promise = 18, says = "if it were sure not THIN, makes that likeliest (of like ones the least); how likely then.")
  static void likeSquares() {
    HeaviestLast x = withGoers(25, 0, 60, 0);
    row(x, 0, 0);
    for (int way = 0; way < 3; way++) due("none is thin", x.bore(0, way, 2), 8 * way);
    due("sure", x.bore(0, 0, 0), 1);
    x.mend(2, THIN, 3);
    x.mend(5, THIN, 3);
    due("the first of two alike", x.bore(0, 0, 2), 2);
    x.mend(5, THIN, 4);
    due("the thinner one", x.bore(0, 0, 2), 5);
    due("9 of 12", x.bore(0, 0, 0), 3);
    due("9 of 12", x.bore(0, 0, 1), 4);
    x.mend(2, THIN, 12);
    due("the one that lets nobody over", x.bore(0, 0, 2), 2);
    due("8 of 12", x.bore(0, 0, 1), 3);
    x.mend(6, THIN, 12);
    due("two let nobody over: none helps", x.bore(0, 0, 2), 0);
    due("never", x.bore(0, 0, 0), 0);
    due("never", x.bore(0, 0, 1), 1);
    row(x, 0, 1);
    due("too heavy for any", x.bore(0, 1, 2), 8);
    due("never", x.bore(0, 1, 0), 0);
    row(x, 0, 0, 0, 0, 0, 1);
    due("4 count", x.bore(0, 1, 0), 1);
    row(x, 0, 0, 0, 0, 1);
    due("the fourth does", x.bore(0, 1, 0), 0);
    row(x, 0);
    due("nobody", x.bore(0, 0, 0), 1);
  }

  // ---- 19

  @Edge(promise = 19, says = "SAFE. BAD.")
  static void whoIsSafe() {
    HeaviestLast x = withLight(7);
    for (int g = 0; g < 7; g++) due("goer " + g, x.safe(g), 0);
    for (int g : new int[] {-1, 7, MIN, MAX}) due("goer " + g, x.safe(g), BAD);
    due("nobody", new HeaviestLast().safe(0), BAD);
  }

  @Edge(promise = 19, says = "SAFE: of all WAYS that by which a GOER alone gets over likeliest (of like ones the least).")
  static void likeWays() {
    HeaviestLast x = withGoers(25, 0, 60, 0);
    x.mend(0, THIN, 1);
    due("1 and 2 are sure", x.safe(0), 1);
    due("none is likely", x.safe(1), 0);
    x.mend(8, THIN, 2);
    due("2 is sure", x.safe(0), 2);
    x.mend(16, THIN, 3);
    due("0 is likeliest", x.safe(0), 0);
    x.mend(0, THIN, 12);
    x.mend(8, THIN, 12);
    x.mend(16, THIN, 12);
    due("all surely not", x.safe(0), 0);
    x.mend(16, THIN, 11);
    due("1 of 12 is likelier", x.safe(0), 2);
    wholeWay(x, 2, THIN, 11);
    due("the least likely is likelier than never", x.safe(0), 2);
    HeaviestLast alone = withGoers(60, 60, 25, 0);
    alone.mend(0, THIN, 1);
    due("alone: nobody ahead of it", alone.safe(1), 1);
  }

  // ---- 20

  private static void dueWho(String what, HeaviestLast x, int sets, int least, int inAll) {
    due(what + ", sets", x.who(0, 0, 0), sets);
    due(what + ", the least", x.who(0, 0, 1), least);
    due(what + ", in all", x.who(0, 0, 2), inAll);
  }

  @Edge(promise = 20, says = "WEAK of the SQUARES of a WAY (8 at most count; what lacks may be any):")
  static void eightCount() {
    HeaviestLast x = hard(5, 3, 5, 3, 5, 4);
    row(x, 0);
    dueWho("an empty row", x, 8, 0, 0);
    row(x, 0, 7);
    dueWho("one of eight", x, 2, 5, 4);
    row(x, 0, 10, 10, 10, 10, 10, 10, 10);
    dueWho("seven of eight", x, 1, 7, 7);
    row(x, 0, 10, 10, 10, 10, 10, 10, 10, 10);
    dueWho("eight", x, 1, 7, 7);
    row(x, 0, 10, 10, 10, 10, 10, 10, 10, 9);
    dueWho("the eighth counts", x, 0, NOT, 0);
    row(x, 0, 10, 10, 10, 10, 10, 10, 10, 10, 9, -1);
    dueWho("the ninth does not", x, 1, 7, 7);
  }

  @Edge(promise = 20, says = "the least; GOERS in all of them (0: none).")
  static void theLeastSet() {
    HeaviestLast x = withLight(7);
    rowOf(x, 0, 8, 0);
    dueWho("any may have gone", x, 128, 0, 0);
    row(x, 0, 1);
    dueWho("none leaves that", x, 0, NOT, 0);
    for (int wrong : new int[] {-1, -128, 127, 100}) {
      row(x, 0, wrong);
      dueWho("WEAK is never " + wrong, x, 0, NOT, 0);
    }
    HeaviestLast seven = hard(1, 1, 1, 1, 1, 1, 1, 1, 1, 1, 1, 1, 1, 1);
    row(seven, 0, 7);
    dueWho("all seven", seven, 1, 127, 127);
    row(seven, 0, 6);
    dueWho("all but one", seven, 7, 63, 0);
    HeaviestLast nobody = new HeaviestLast();
    row(nobody, 0);
    dueWho("nobody", nobody, 1, 0, 0);
    row(nobody, 0, 1);
    dueWho("nobody leaves that", nobody, 0, NOT, 0);
  }

  @Edge(promise = 20, says = "each at most once, one after the other by numbers, may have gone, all OVER, from WEAK 0, from now on, not waiting: how many such sets leave it just so (as the last one's minutes are over);")
  static void eachAtMostOnce() {
    HeaviestLast x = hard(5, 3);
    row(x, 0, 6);
    dueWho("it would have to go twice", x, 0, NOT, 0);
    x.go(0, 0);
    row(x, 0, 3);
    dueWho("from WEAK 0", x, 1, 1, 1);
    x.mend(7, STRENGTH, 4);
    dueWho("it falls", x, 0, NOT, 0);
    row(x, 0, 3, 3, 3, 3, 3, 3, 3, 99);
    dueWho("who fell has not gone over", x, 0, NOT, 0);
    HeaviestLast mending = withGoers(5, 6);
    row(mending, 0, 4);
    dueWho("2 are back", mending, 1, 1, 1);
    // 5 less 2 and 1 less 2 leave 2; had goer 1 gone first, 3 would be left
    HeaviestLast order = withGoers(5, 5, 5, 1);
    row(order, 0, 2);
    dueWho("by numbers", order, 1, 3, 3);
    due("THIN is left out", thinWho(), 2);
    HeaviestLast other = withGoers(1, 9);
    other.go(0, 0);
    row(other, 0, 7, 7, 7, 7, 7, 7, 7, 7);
    for (int way = 0; way < 3; way++) due("by way " + way, other.who(0, way, 1), 1);
  }

  private static int thinWho() {
    HeaviestLast x = allThin(30, 0);
    row(x, 0, 0);
    return x.who(0, 0, 0);
  }

  @Edge(promise = 20, says = "WHO: how many sets (what 0), the least (1; NOT), GOERS in all (2). BAD, -11, -12 (no ROW of bytes).")
  static void whoRefuses() {
    HeaviestLast x = withLight(1);
    row(x, 0, 0);
    for (int what : new int[] {-1, 3, MIN, MAX}) {
      due("what " + what, x.who(0, 0, what), BAD);
      due("BAD ahead of -11", x.who(1, 0, what), BAD);
    }
    for (int what = 0; what < 3; what++) {
      int w = what;
      dueRefusals((y, shelf, way) -> y.who(shelf, way, w), BAD, MISSING, OTHER_KIND);
    }
  }

  // ---- 21

  @Edge(promise = 21, says = "JUDGED: the first three that is not so (no GOER, no WAY, no 0 or 1, a three's end that lacks, too); NOT.")
  static void threesThatAreNotSo() {
    HeaviestLast x = withLight(1);
    int[][] wrong = {{1, 0, 1}, {-1, 0, 1}, {127, 0, 1}, {-128, 0, 1}, {0, 3, 1}, {0, -1, 1}, {0, 127, 1}, {0, 0, 2},
        {0, 0, -1}, {0, 0, 127}, {0, 0, 0}, {0, 0}, {0}};
    for (int[] w : wrong) {
      row(x, 0, w);
      due("the first", x.judge(0), 0);
      int[] behind = new int[3 + w.length];
      behind[2] = 1;
      System.arraycopy(w, 0, behind, 3, w.length);
      row(x, 0, behind);
      due("the second", x.judge(0), 1);
    }
    HeaviestLast seven = withLight(7);
    row(seven, 0, 6, 2, 1, 7, 2, 1);
    due("6 is one, 7 is none", seven.judge(0), 1);
    HeaviestLast nobody = new HeaviestLast();
    row(nobody, 0, 0, 0, 1);
    due("nobody", nobody.judge(0), 0);
    HeaviestLast heavy = allThin(31, 0);
    row(heavy, 0, 0, 0, 0);
    due("it falls, as told", heavy.judge(0), NOT);
    // who is none, or goes by no way, does not fall either; and what lacks is not 0
    int[][] noFall = {{1, 0, 0}, {-1, 0, 0}, {0, 3, 0}, {0, -1, 0}, {0, 0, 2}, {0, 0, -1}, {0, 0, 1}, {0, 0}, {0}};
    for (int[] w : noFall) {
      row(heavy, 1, w);
      due("it does not fall so", heavy.judge(1), 0);
    }
    heavy.mend(0, WEIGHT, 30);
    due("THIN is left out", heavy.judge(0), 0);
  }

  @Edge(promise = 21, says = "a three's end that lacks, too")
  static void rowsThatEnd() {
    HeaviestLast x = withLight(1);
    for (int length : new int[] {0, 3, 57, 60}) {
      threes(x, length);
      due("a row of " + length, x.judge(0), NOT);
    }
    for (int length : new int[] {1, 2, 4, 5, 58, 59}) {
      threes(x, length);
      due("a row of " + length, x.judge(0), length / 3);
    }
    threes(x, 60);
    x.put(0, 59, 0);
    due("the last of twenty", x.judge(0), 19);
  }

  private static void threes(HeaviestLast x, int length) {
    x.row(0, 0, length);
    for (int i = 2; i < length; i += 3) x.put(0, i, 1);
  }

  @Edge(promise = 21, says = "JUDGED. BAD, -11, -12; NOT.")
  static void judgeRefuses() {
    // judge() knows no way: what dueRefusals asks of one is answered for it here
    dueRefusals((x, shelf, way) -> way < 0 || way > 2 ? BAD : x.judge(shelf), BAD, MISSING, OTHER_KIND);
  }

  // ---- 22

  @Edge(promise = 22, says = "DRAWN: n nights (1 .. 20) by a SEED:")
  static void boundsOfNights() {
    HeaviestLast x = withLight(7);
    for (int way = 0; way < 3; way++) {
      due("one night", x.drawn(1, 10 + way, 0), 7);
      due("one night", x.drawn(1, 10 + way, 1), 1);
      due("twenty nights", x.drawn(1, 200 + way, 0), 140);
      due("twenty nights", x.drawn(1, 200 + way, 1), 20);
      due("no night", x.drawn(1, way, 0), BAD);
      due("twenty-one nights", x.drawn(1, 210 + way, 0), BAD);
    }
    HeaviestLast nobody = new HeaviestLast();
    due("nobody", nobody.drawn(1, 200, 0), 0);
    due("nobody: all of them", nobody.drawn(1, 200, 1), 20);
  }

  @Edge(promise = 22, says = "DRAWN (nw: 10 n and the WAY): OVER (what 0), nights (1). BAD.")
  static void drawnRefuses() {
    HeaviestLast x = withLight(1);
    for (int nw : new int[] {-1, -10, 0, 9, 13, 19, 203, 209, 210, 1000, MIN, MAX}) {
      for (int what = 0; what < 2; what++) due("nw " + nw, x.drawn(1, nw, what), BAD);
    }
    for (int what : new int[] {-1, 2, MIN, MAX}) due("what " + what, x.drawn(1, 10, what), BAD);
    for (int seed : new int[] {MIN, -1, 0, MAX}) due("any SEED", x.drawn(seed, 10, 0), 1);
  }

  /** What the document draws, by numbers that cannot wrap of themselves. */
  private static BigInteger drawnBehind(BigInteger z) {
    BigInteger whole = BigInteger.ONE.shiftLeft(32);
    return z.multiply(BigInteger.valueOf(1103515245)).add(BigInteger.valueOf(12345)).mod(whole);
  }

  @Edge(promise = 22, says = "z = z * 1103515245 + 12345 (an int; SEED at first): THIN, if (z >>> 8) % 12 is below THIN;")
  static void drawsThatWrap() {
    BigInteger twelve = BigInteger.valueOf(12);
    for (int seed : new int[] {0, 1, -1, 77, MIN, MAX, 123456789, -987654321}) {
      BigInteger z = BigInteger.valueOf(seed).mod(BigInteger.ONE.shiftLeft(32));
      for (int place = 0; place < 8; place++) {
        z = drawnBehind(z);
        int v = z.shiftRight(8).mod(twelve).intValue();
        HeaviestLast x = withGoers(25, 0);
        x.mend(8 + place, THIN, v);
        due("SEED " + seed + ": " + v + " is not below it", x.drawn(seed, 11, 0), 1);
        x.mend(8 + place, THIN, v + 1);
        due("SEED " + seed + ": " + v + " is below it", x.drawn(seed, 11, 0), 0);
        due("all in no night", x.drawn(seed, 11, 1), 0);
        due("another way", x.drawn(seed, 10, 0), 1);
      }
    }
  }

  @Edge(promise = 22, says = "ahead of each the SQUARES of a WAY by places are drawn:")
  static void eightDrawsANight() {
    for (int nights : new int[] {1, 2, 20}) {
      int over = 0;
      BigInteger z = BigInteger.valueOf(77);
      for (int draw = 0; draw < 8 * nights; draw++) {
        z = drawnBehind(z);
        int v = z.shiftRight(8).mod(BigInteger.valueOf(12)).intValue();
        if (draw % 8 == 6 && v >= 7) over++;
      }
      for (int way = 0; way < 3; way++) {
        HeaviestLast x = withGoers(25, 0);
        x.mend(8 * way + 6, THIN, 7);
        due(nights + " nights by way " + way, x.drawn(77, 10 * nights + way, 0), over);
        due(nights + " nights by way " + way, x.drawn(77, 10 * nights + way, 1), over);
      }
    }
  }

  @Edge(promise = 22, says = "then all GOERS by numbers, from WEAK as now: how many get OVER, all together; in how many nights all.")
  static void nightsFromNow() {
    HeaviestLast x = withGoers(30, 9);
    due("each night from WEAK as now", x.drawn(5, 200, 0), 20);
    x.go(0, 0);
    due("7 are weak now", x.drawn(5, 200, 0), 0);
    x.stay(7);
    due("none is weak now", x.drawn(5, 200, 1), 20);
    HeaviestLast thin = withGoers(1, 0, 25, 0);
    wholeWay(thin, 0, THIN, 12);
    due("one of two each night", thin.drawn(5, 50, 0), 5);
    due("never both", thin.drawn(5, 50, 1), 0);
    wholeWay(thin, 0, THIN, 0);
    due("never thin", thin.drawn(5, 50, 1), 5);
  }
}
