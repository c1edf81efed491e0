/** Edges of promises 8 to 14: orders in thought. */
final class OrderEdges extends Edges {

  /** Goers who get over ice that does not mend only if the last number goes first: 30, 29 and so on, each takes 1. */
  private static HeaviestLast onlyBackward(int many) {
    HeaviestLast x = new HeaviestLast();
    for (int g = 0; g < many; g++) x.goer(31 - many + g, 1);
    wholeWay(x, 0, MENDS, 0);
    return x;
  }

  private static void dueOrder(String what, HeaviestLast x, int shelf, int over, int falls, int minutes) {
    due(what + ", OVER", x.over(shelf, 0, 0), over);
    due(what + ", the first that falls", x.over(shelf, 0, 1), falls);
    due(what + ", minutes", x.over(shelf, 0, 2), minutes);
  }

  // ---- 8

  @Edge(promise = 8, says = "GOERS one after the other (10 count; one that is none ends it) by a WAY, none waits:")
  static void tenCount() {
    HeaviestLast x = withLight(1);
    for (int n : new int[] {0, 1, 9, 10, 11, 60}) {
      rowOf(x, 0, n, 0);
      dueOrder("a row of " + n, x, 0, Math.min(n, 10), NOT, 2 * Math.min(n, 10));
    }
  }

  @Edge(promise = 8, says = "one that is none ends it")
  static void oneThatIsNone() {
    HeaviestLast x = withLight(2);
    for (int none : new int[] {2, -1, 127, -128}) {
      row(x, 0, none);
      dueOrder("none at first", x, 0, 0, NOT, 0);
      row(x, 0, 0, 1, none, 0);
      dueOrder("none behind two", x, 0, 2, NOT, 4);
    }
    HeaviestLast seven = withLight(7);
    row(seven, 0, 6, 7, 6);
    dueOrder("6 is one, 7 is none", seven, 0, 1, NOT, 2);
    HeaviestLast nobody = new HeaviestLast();
    row(nobody, 0, 0, 0);
    dueOrder("nobody", nobody, 0, 0, NOT, 0);
  }

  @Edge(promise = 8, says = "OVER (what 0), the place of the first that FALLS (1; NOT), minutes from now on (2).")
  static void theFirstThatFalls() {
    HeaviestLast x = withGoers(1, 0, 60, 0);
    wholeWay(x, 0, MENDS, 9);
    x.mend(1, PACE, 9);
    x.mend(1, LIES, 1);
    wholeWay(x, 0, STRENGTH, 29);
    row(x, 0, 1, 0, 1, 0);
    dueOrder("the first of two falls", x, 0, 2, 0, 40);
    row(x, 0, 0, 0, 0, 0, 0, 0, 0, 0, 0, 1);
    dueOrder("the tenth falls", x, 0, 9, 9, 36);
    row(x, 0, 0, 0, 0, 0, 0, 0, 0, 0, 0, 0, 1);
    dueOrder("the eleventh would fall", x, 0, 10, NOT, 20);
    rowOf(x, 0, 10, 1);
    dueOrder("all fall, each takes 18", x, 0, 0, 0, 180);
    x.stay(999);
    due("from now on", x.over(0, 0, 2), 180);
    for (int what : new int[] {-1, 3, MIN, MAX}) due("what " + what, x.over(0, 0, what), BAD);
  }

  @Edge(promise = 8, says = "BAD, -11, -12 (no ROW of bytes).")
  static void overRefuses() {
    for (int what = 0; what < 3; what++) {
      int w = what;
      dueRefusals((x, shelf, way) -> x.over(shelf, way, w), BAD, MISSING, OTHER_KIND);
    }
    HeaviestLast x = withLight(1);
    due("a wrong what ahead of -11", x.over(0, 0, 3), BAD);
    x.row(0, 1, 1);
    due("a wrong what ahead of -12", x.over(0, 0, -1), BAD);
  }

  @Edge(promise = 8, says = "(THIN left out everywhere but where told).")
  static void overLeavesThinOut() {
    HeaviestLast x = allThin(30, 0);
    row(x, 0, 0);
    dueOrder("THIN", x, 0, 1, NOT, 2);
  }

  // ---- 9

  @Edge(promise = 9, says = "What a SQUARE BEARS behind an ORDER by a WAY. BAD, -11, -12.")
  static void squaresThatAreAskedFor() {
    HeaviestLast x = withGoers(1, 9);
    row(x, 0, 0);
    for (int square : new int[] {-1, 24, MIN, MAX}) due("square " + square, x.bears(0, 0, square), BAD);
    due("BAD ahead of -11", x.bears(1, 0, 24), BAD);
    due("the first", x.bears(0, 0, 0), 23);
    due("the last of the way", x.bears(0, 0, 7), 23);
    due("the first of the next", x.bears(0, 0, 8), 30);
    due("the last of all", x.bears(0, 2, 23), 23);
    dueRefusals((y, shelf, way) -> y.bears(shelf, way, 23), BAD, MISSING, OTHER_KIND);
  }

  @Edge(promise = 9, says = "It BEARS in a minute: STRENGTH less WEAK less what the sun takes (0 at least).")
  static void bearsBehindAnOrder() {
    HeaviestLast x = withGoers(1, 9);
    row(x, 0, 0);
    x.mend(0, SUNNY, 1);
    due("30 less 7 less 1", x.bears(0, 0, 0), 22);
    x.mend(0, STRENGTH, 9);
    due("1", x.bears(0, 0, 0), 1);
    x.mend(0, STRENGTH, 8);
    due("0", x.bears(0, 0, 0), 0);
    x.mend(0, STRENGTH, 1);
    due("not below 0", x.bears(0, 0, 0), 0);
    due("THIN is left out", allThinBears(), 30);
  }

  private static int allThinBears() {
    HeaviestLast x = allThin(30, 0);
    row(x, 0, 0);
    return x.bears(0, 0, 0);
  }

  @Edge(promise = 9, says = "one that is none ends it")
  static void bearsBehindNobody() {
    HeaviestLast x = withGoers(1, 9);
    row(x, 0);
    due("an empty row", x.bears(0, 0, 0), 30);
    row(x, 0, 1, 0);
    due("one that is none", x.bears(0, 0, 0), 30);
    wholeWay(x, 0, STRENGTH, 99);
    wholeWay(x, 0, MENDS, 0);
    rowOf(x, 0, 10, 0);
    due("10 count", x.bears(0, 0, 0), 9);
    rowOf(x, 0, 11, 0);
    due("the eleventh does not", x.bears(0, 0, 0), 9);
  }

  // ---- 10

  @Edge(promise = 10, says = "ALL: how many (k -1), the k-th. BAD; NOT: there are not as many.")
  static void whichOfAll() {
    HeaviestLast x = onlyBackward(7);
    due("all seven", x.all(0, -1), 7);
    for (int k = 0; k < 7; k++) due("the last goes first", x.all(0, k), 6 - k);
    for (int k : new int[] {7, 8, MAX}) due("k " + k, x.all(0, k), NOT);
    for (int k : new int[] {-2, MIN}) due("k " + k, x.all(0, k), BAD);
    for (int way : new int[] {-1, 3, MIN, MAX}) {
      due("way " + way, x.all(way, 0), BAD);
      due("BAD ahead of NOT", x.all(way, 7), BAD);
    }
    HeaviestLast nobody = new HeaviestLast();
    due("nobody", nobody.all(2, -1), 0);
    due("nobody", nobody.all(2, 0), NOT);
    due("nobody, k -2", nobody.all(2, -2), BAD);
  }

  @Edge(promise = 10, says = "(the falling ones, too) that by which most get OVER (of like ones the first by numbers)")
  static void likeOrders() {
    HeaviestLast x = withLight(7);
    due("all", x.all(0, -1), 7);
    for (int k = 0; k < 7; k++) due("by numbers", x.all(0, k), k);
    HeaviestLast heavy = withGoers(60, 0, 60, 0, 60, 0);
    due("all fall", heavy.all(0, -1), 0);
    for (int k = 0; k < 3; k++) due("by numbers", heavy.all(0, k), k);
    HeaviestLast mixed = withGoers(60, 1, 20, 1, 60, 1, 20, 1);
    due("two of four", mixed.all(1, -1), 2);
    int[] order = {1, 3, 0, 2};
    for (int k = 0; k < 4; k++) due("those who get over first, then by numbers", mixed.all(1, k), order[k]);
    due("THIN is left out", allThin(30, 0).all(0, -1), 1);
  }

  // ---- 11

  @Edge(promise = 11, says = "RULES: how many by a RULE (0 .. 3), the best RULE (4). BAD.")
  static void whichRules() {
    HeaviestLast x = withLight(7);
    for (int rule = 0; rule < 4; rule++) due("rule " + rule, x.rule(0, rule), 7);
    due("the best", x.rule(0, 4), 0);
    for (int rule : new int[] {-1, 5, MIN, MAX}) due("rule " + rule, x.rule(0, rule), BAD);
    for (int way : new int[] {-1, 3, MIN, MAX}) due("way " + way, x.rule(way, 0), BAD);
    for (int rule = 0; rule < 5; rule++) due("nobody", new HeaviestLast().rule(2, rule), 0);
    due("THIN is left out", allThin(30, 0).rule(0, 0), 1);
  }

  @Edge(promise = 11, says = "2 whose WEIGHT less TAKES is greatest first (all of like ones by numbers), 3 by numbers: how many get OVER by a RULE;")
  static void likeOnesByNumbers() {
    // alike in WEIGHT and in WEIGHT less TAKES; 24 bear both only if who does not lie goes ahead of who does
    HeaviestLast x = withGoers(20, 11, 20, 11);
    wholeWay(x, 0, MENDS, 0);
    wholeWay(x, 0, STRENGTH, 24);
    x.mend(0, LIES, 1);
    for (int rule = 0; rule < 4; rule++) due("5 are taken of 24, rule " + rule, x.rule(0, rule), 1);
    x.mend(0, LIES, 0);
    x.mend(1, LIES, 1);
    for (int rule = 0; rule < 4; rule++) due("11 are taken of 24, rule " + rule, x.rule(0, rule), 2);
    due("WEIGHT less TAKES may be below 0", withGoers(1, 60, 30, 29).rule(0, 2), 2);
  }

  @Edge(promise = 11, says = "RULES: 0 lightest first, 1 heaviest first,")
  static void sevenByRules() {
    // 30 first, then 29 and so on, or one falls
    int[] weights = {27, 24, 30, 26, 25, 29, 28};
    HeaviestLast x = new HeaviestLast();
    for (int w : weights) x.goer(w, 1);
    wholeWay(x, 0, MENDS, 0);
    due("heaviest first", x.rule(0, 1), 7);
    due("the greatest difference first", x.rule(0, 2), 7);
    due("the best", x.rule(0, 4), 1);
    // 24 first, then 25 and so on, as the ice comes back by 1 a minute
    HeaviestLast y = new HeaviestLast();
    for (int g = 0; g < 7; g++) {
      y.goer(weights[g], 0);
      y.mend(g, PACE, 1);
    }
    law(y, "7");
    y.go(1, 0);
    law(y, "0");
    due("lightest first", y.rule(0, 0), 7);
    due("the best", y.rule(0, 4), 0);
  }

  @Edge(promise = 11, says = "the best RULE (of like ones the least).")
  static void theBestRule() {
    due("none by any", withGoers(60, 0, 60, 1).rule(0, 4), 0);
    due("all by all", withLight(7).rule(0, 4), 0);
    HeaviestLast heaviest = withGoers(8, 5, 20, 6, 12, 9, 30, 12);
    dueByRules(heaviest, 3, 4, 4, 3);
    due("1 and 2 are alike", heaviest.rule(0, 4), 1);
    HeaviestLast differ = withGoers(20, 15, 20, 5);
    dueByRules(differ, 1, 1, 2, 1);
    due("2 alone", differ.rule(0, 4), 2);
    // who goes in minute 0 takes nothing, and that should be goer 0
    HeaviestLast numbers = withGoers(20, 20, 25, 0, 11, 11);
    wholeWay(numbers, 0, MENDS, 0);
    law(numbers, "m=0?0;t");
    dueByRules(numbers, 2, 2, 2, 3);
    due("3 alone", numbers.rule(0, 4), 3);
  }

  private static void dueByRules(HeaviestLast x, int... over) {
    for (int rule = 0; rule < 4; rule++) due("rule " + rule, x.rule(0, rule), over[rule]);
  }

  // ---- 12

  @Edge(promise = 12, says = "WAITS: of the k-th (0 on), all together (-1), the minute at last (-2). BAD, -11, -12; NOT: there are not as many.")
  static void whichWaits() {
    HeaviestLast x = withLight(1);
    for (int n : new int[] {0, 1, 10, 11}) {
      rowOf(x, 0, n, 0);
      int counted = Math.min(n, 10);
      if (counted > 0) due("the first", x.waits(0, 0, 0), 0);
      if (counted > 0) due("the last", x.waits(0, 0, counted - 1), 0);
      due("not as many", x.waits(0, 0, counted), NOT);
      due("not as many", x.waits(0, 0, MAX), NOT);
      due("together", x.waits(0, 0, -1), 0);
      due("the minute at last", x.waits(0, 0, -2), 2 * counted);
    }
    row(x, 0, 0, 1, 0);
    due("one that is none ends it", x.waits(0, 0, 1), NOT);
    for (int k : new int[] {-3, MIN}) {
      due("k " + k, x.waits(0, 0, k), BAD);
      due("BAD ahead of -11", x.waits(1, 0, k), BAD);
    }
    dueRefusals((y, shelf, way) -> y.waits(shelf, way, 5), BAD, MISSING, OTHER_KIND);
  }

  @Edge(promise = 12, says = "(60 minutes at most; else it goes at once)")
  static void sixtyMinutesAtMost() {
    // behind a crossing that takes so much, and 2 back, one of 60 waits on ice of 60
    String[] takes = {"2", "3", "61", "62", "63", "99"};
    int[] waits = {0, 1, 59, 60, 0, 0};
    for (int i = 0; i < takes.length; i++) {
      HeaviestLast x = withGoers(60, 0);
      wholeWay(x, 0, STRENGTH, 60);
      law(x, takes[i]);
      row(x, 0, 0, 0);
      due("behind " + takes[i], x.waits(0, 0, 1), waits[i]);
      due("together", x.waits(0, 0, -1), waits[i]);
      due("the minute at last", x.waits(0, 0, -2), 4 + waits[i]);
    }
  }

  @Edge(promise = 12, says = "WAITS: in a told ORDER each waits as short as it must so that it gets over")
  static void asShortAsItMust() {
    HeaviestLast x = withGoers(30, 0);
    wholeWay(x, 0, MENDS, 9);
    row(x, 0, 0, 0);
    String[] takes = {"18", "19", "27", "28"};
    int[] waits = {0, 1, 1, 2};
    for (int i = 0; i < takes.length; i++) {
      law(x, takes[i]);
      due("behind " + takes[i], x.waits(0, 0, 1), waits[i]);
    }
    for (int square : new int[] {0, 3, 7}) {
      x.mend(square, MENDS, 1);
      due("for square " + square, x.waits(0, 0, 1), 26);
      x.mend(square, MENDS, 9);
    }
    x.mend(0, SUNNY, 0);
    due("no wait helps against the sun", x.waits(0, 0, 1), 0);
    due("THIN is left out", thinWaits(), 0);
  }

  @Edge(promise = 12, says = "else it goes at once): how long the k-th waits; all together; the minute at last.")
  static void whoGoesAtOnce() {
    // 31 fall in square 0 of 30, which comes back by 9 a minute: 81, and 52 of it till 1 may go
    HeaviestLast x = withGoers(31, 0, 1, 0);
    x.mend(0, MENDS, 9);
    row(x, 0, 0, 1, 1);
    due("who falls", x.waits(0, 0, 0), 0);
    due("who comes behind", x.waits(0, 0, 1), 6);
    due("who comes then", x.waits(0, 0, 2), 0);
    due("together", x.waits(0, 0, -1), 6);
    due("at last", x.waits(0, 0, -2), 12);
    x.stay(100);
    due("the minute, not how many", x.waits(0, 0, -2), 112);
    HeaviestLast weak = withGoers(30, 9);
    weak.go(0, 0);
    row(weak, 0, 0, 0);
    due("the first waits for ice that is weak now", weak.waits(0, 0, 0), 7);
    due("and the second", weak.waits(0, 0, 1), 7);
    due("together", weak.waits(0, 0, -1), 14);
    due("at last", weak.waits(0, 0, -2), 2 + 7 + 2 + 7 + 2);
    HeaviestLast whole = withGoers(20, 0);
    law(whole, "w=20?13;0");
    row(whole, 0, 0, 0);
    due("w is what it weighs", whole.waits(0, 0, 1), 1);
  }

  private static int thinWaits() {
    HeaviestLast x = allThin(30, 30);
    row(x, 0, 0);
    return x.waits(0, 0, -1);
  }

  // ---- 13

  @Edge(promise = 13, says = "SOONEST: the minute (k -1), the k-th. BAD; STATE; NOT.")
  static void whichOfTheSoonest() {
    HeaviestLast x = onlyBackward(5);
    due("the minute", x.soonest(0, -1), 10);
    for (int k = 0; k < 5; k++) due("the last goes first", x.soonest(0, k), 4 - k);
    for (int k : new int[] {5, 6, MAX}) due("k " + k, x.soonest(0, k), NOT);
    for (int k : new int[] {-2, MIN}) due("k " + k, x.soonest(0, k), BAD);
    for (int way : new int[] {-1, 3, MIN, MAX}) due("way " + way, x.soonest(way, 5), BAD);
    HeaviestLast nobody = new HeaviestLast();
    nobody.stay(5);
    due("nobody: at once", nobody.soonest(2, -1), 5);
    due("nobody", nobody.soonest(2, 0), NOT);
  }

  @Edge(promise = 13, says = "(of like ones the first by numbers; 5 GOERS at most, else STATE): it; the k-th; NOT: by none.")
  static void fiveAtMost() {
    HeaviestLast x = withLight(5);
    due("five", x.soonest(0, -1), 10);
    for (int k = 0; k < 5; k++) due("by numbers", x.soonest(0, k), k);
    for (int many = 6; many <= 7; many++) {
      x.goer(1, 0);
      for (int k : new int[] {-1, 0, 5, 7, MAX}) due(many + " goers, k " + k, x.soonest(0, k), STATE);
      due("BAD ahead of STATE", x.soonest(0, -2), BAD);
      due("BAD ahead of STATE", x.soonest(3, -1), BAD);
    }
    HeaviestLast heavy = withGoers(1, 0, 31, 0);
    for (int k : new int[] {-1, 0, 1, 2}) due("by none, k " + k, heavy.soonest(0, k), NOT);
    heavy.mend(1, WEIGHT, 30);
    due("30 is borne", heavy.soonest(0, -1), 4);
    due("THIN is left out", allThin(30, 0).soonest(0, -1), 2);
  }

  @Edge(promise = 13, says = "(60 minutes at most; else it goes at once)")
  static void soonestWaits() {
    HeaviestLast x = withGoers(60, 0, 60, 0);
    wholeWay(x, 0, STRENGTH, 60);
    law(x, "62");
    due("2, 60 and 2", x.soonest(0, -1), 64);
    due("of like ones the first", x.soonest(0, 0), 0);
    law(x, "63");
    due("61 would be needed", x.soonest(0, -1), NOT);
    law(x, "w=60?3;0");
    due("w is what it weighs", x.soonest(0, -1), 5);
  }

  // ---- 14

  @Edge(promise = 14, says = "LEAST STRENGTH: the least STRENGTH (0 .. 99) that all SQUARES of a WAY would need")
  static void boundsOfTheLeastStrength() {
    HeaviestLast x = withGoers(1, 0, 60, 0);
    row(x, 0);
    due("nobody needs any", x.strength(0, 0), 0);
    row(x, 0, 2);
    due("one that is none ends it", x.strength(0, 0), 0);
    row(x, 0, 0);
    due("1", x.strength(0, 0), 1);
    row(x, 0, 0, 1);
    due("60", x.strength(0, 0), 60);
    x.mend(0, SUNNY, 0);
    x.stay(37);
    due("60 and 39 of the sun", x.strength(0, 0), 99);
    x.stay(1);
    due("100 would do", x.strength(0, 0), NOT);
  }

  @Edge(promise = 14, says = "(all alike, MENDS as they are, WEAK 0) so that all of an ORDER get OVER; NOT.")
  static void fromWeakNought() {
    HeaviestLast x = allThin(20, 8);
    row(x, 0, 0, 0);
    due("20 and 6", x.strength(0, 0), 26);
    x.go(0, 0);
    due("WEAK does not count", x.strength(0, 0), 26);
    x.mend(7, STRENGTH, 0);
    due("STRENGTH does not count", x.strength(0, 0), 26);
    x.mend(7, MENDS, 0);
    due("MENDS count", x.strength(0, 0), 28);
    x.mend(8, MENDS, 0);
    due("not of another way", x.strength(0, 0), 28);
    law(x, "b/2");
    due("39 less 19", x.strength(0, 0), 39);
    law(x, "99");
    due("by none", x.strength(0, 0), NOT);
    row(x, 0, 0);
    due("one alone", x.strength(0, 0), 20);
    rowOf(x, 0, 11, 0);
    law(x, "t");
    x.mend(0, TAKES, 2);
    due("10 count: 20 and 9 times 2", x.strength(0, 0), 38);
  }

  @Edge(promise = 14, says = "LEAST STRENGTH. BAD, -11, -12; NOT.")
  static void strengthRefuses() {
    dueRefusals((x, shelf, way) -> x.strength(shelf, way), BAD, MISSING, OTHER_KIND);
  }
}
