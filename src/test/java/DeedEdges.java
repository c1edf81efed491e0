/** Edges of promises 23 to 29: crossings in deed, what is led of them, the image, changes undone and done again. */
final class DeedEdges extends Edges {

  // ---- 23

  @Edge(promise = 23, says = "GO: 1, 0. BAD.")
  static void whoGoes() {
    HeaviestLast x = withLight(7);
    x.mend(6, WEIGHT, 60);
    due("over", x.go(0, 2), 1);
    due("it fell", x.go(6, 2), 0);
    for (int goer : new int[] {-1, 7, MIN, MAX}) due("goer " + goer, x.go(goer, 0), BAD);
    for (int way : new int[] {-1, 3, MIN, MAX}) due("way " + way, x.go(0, way), BAD);
    due("two went", x.led(0), 2);
    due("in four minutes", x.of(0, NOW), 4);
    due("nobody", new HeaviestLast().go(0, 0), BAD);
  }

  @Edge(promise = 23, says = "BEARS it what it weighs, it becomes WEAKER (WEAK 99 at most); else it FALLS in there: that SQUARE's WEAK becomes 99, it is not over, no further.")
  static void whatBearsJustSoMuch() {
    for (int place : new int[] {0, 4, 7}) {
      HeaviestLast x = withGoers(30, 9);
      wholeWay(x, 0, MENDS, 0);
      due("30 bear 30", x.go(0, 0), 1);
      x = withGoers(30, 9);
      wholeWay(x, 0, MENDS, 0);
      x.mend(place, STRENGTH, 29);
      due("29 do not", x.go(0, 0), 0);
      for (int q = 0; q < 8; q++) due("place " + q, x.of(q, WEAK), q < place ? 9 : q == place ? 99 : 0);
      due("there", x.led(4), place);
      due("it is not over", x.led(1), 0);
      due("it falls there again", x.go(0, 0), 0);
    }
    HeaviestLast weak = hard(1, 60);
    weak.go(0, 0);
    weak.go(0, 0);
    due("60 and 60 are 99", weak.of(0, WEAK), 99);
    due("0 do not bear 1", weak.go(0, 0), 0);
    due("99 at most", weak.of(0, WEAK), 99);
    due("no further", weak.of(1, WEAK), 99);
  }

  @Edge(promise = 23, says = "it counts half, upward, and takes twice as long)")
  static void lyingHalfUpward() {
    int[] weight = {1, 2, 3, 59, 60};
    int[] half = {1, 1, 2, 30, 30};
    for (int i = 0; i < weight.length; i++) {
      HeaviestLast x = withGoers(weight[i], 0);
      x.mend(0, LIES, 1);
      wholeWay(x, 0, STRENGTH, half[i]);
      due(weight[i] + " on " + half[i], x.go(0, 0), 1);
      wholeWay(x, 0, STRENGTH, half[i] - 1);
      due(weight[i] + " on one less", x.go(0, 0), 0);
      due("twice 2 minutes, and again", x.of(0, NOW), 8);
    }
  }

  @Edge(promise = 23, says = "Then the minutes pass (PACE, lying twice): each of the 24 SQUARES is less WEAK by MENDS a minute (0 at least).")
  static void minutesPass() {
    dueBack(1, 0, 1, 59, 56, 90);
    dueBack(9, 0, 9, 51, 24, 18);
    dueBack(1, 1, 2, 58, 52, 81);
    dueBack(9, 1, 18, 42, 0, 0);
  }

  /** One falls in square 16 where all squares are 60 weak: what is left of WEAK, mending 1, 4, 9 and 0 a minute. */
  private static void dueBack(int pace, int lies, int minutes, int... weak) {
    HeaviestLast x = withGoers(1, 60);
    for (int way = 0; way < 3; way++) {
      wholeWay(x, way, MENDS, 0);
      x.go(0, way);
    }
    x.mend(0, MENDS, 1);
    x.mend(8, MENDS, 4);
    x.mend(16, MENDS, 9);
    x.mend(0, PACE, pace);
    x.mend(0, LIES, lies);
    due("it falls", x.go(0, 2), 0);
    due("minutes", x.of(0, NOW), 6 + minutes);
    for (int way = 0; way < 3; way++) due("way " + way, x.of(8 * way, WEAK), weak[way]);
    due("MENDS 0", x.of(23, WEAK), 60);
  }

  @Edge(promise = 23, says = "SQUARE by SQUARE, all in that minute:")
  static void allInThatMinute() {
    HeaviestLast x = hard(1, 0);
    x.mend(0, PACE, 9);
    x.stay(7);
    law(x, "m");
    x.go(0, 0);
    for (int place = 0; place < 8; place++) due("place " + place, x.of(place, WEAK), 7);
    x.go(0, 0);
    due("then minute 16", x.of(7, WEAK), 23);
  }

  @Edge(promise = 23, says = "(THIN left out everywhere but where told).")
  static void goLeavesThinOut() {
    HeaviestLast x = withGoers(30, 0);
    wholeWay(x, 0, THIN, 12);
    wholeWay(x, 0, LESS, 99);
    due("THIN", x.go(0, 0), 1);
    due("it bears as much", x.of(0, BEARS), 30);
  }

  // ---- 24

  @Edge(promise = 24, says = "WAIT n minutes (1 .. 999): NOW.")
  static void boundsOfWaiting() {
    HeaviestLast x = withGoers(60, 0);
    for (int n : new int[] {0, -1, 1000, MIN, MAX}) due("n " + n, x.stay(n), BAD);
    due("no minute passed", x.of(0, NOW), 0);
    x.go(0, 0);
    due("one minute", x.stay(1), 3);
    due("1 back", x.of(0, WEAK), 96);
    due("999 minutes", x.stay(999), 1002);
    due("all back, not more", x.of(0, WEAK), 0);
  }

  @Edge(promise = 24, says = "BAD; STATE: it would be more than 9999.")
  static void noMoreThan9999() {
    HeaviestLast x = withGoers(60, 0);
    for (int k = 1; k <= 10; k++) due("NOW", x.stay(999), 999 * k);
    x.go(0, 0);
    due("10000 would be more", x.stay(8), STATE);
    due("999 more", x.stay(999), STATE);
    due("nothing changed", x.of(0, NOW), 9992);
    due("nothing came back", x.of(0, WEAK), 97);
    due("BAD ahead of STATE", x.stay(1000), BAD);
    due("9999 is not more", x.stay(7), 9999);
    due("7 back", x.of(0, WEAK), 90);
    due("one more", x.stay(1), STATE);
    due("BAD ahead of STATE", x.stay(0), BAD);
    due("9999 still", x.of(0, NOW), 9999);
  }

  // ---- 25

  @Edge(promise = 25, says = "LED: crossings (what 0), over (1), FALLS (2), the heaviest (3), the SQUARE (4). BAD.")
  static void whatIsLed() {
    HeaviestLast x = withGoers(1, 0, 60, 0);
    for (int what : new int[] {-1, 5, MIN, MAX}) due("what " + what, x.led(what), BAD);
    dueLed("at first", x, 0, 0, 0, 0, NOT);
    x.go(1, 2);
    dueLed("a fall", x, 1, 0, 1, 0, 16);
    x.go(0, 1);
    dueLed("one over", x, 2, 1, 1, 1, 16);
    x.go(1, 3);
    x.go(2, 0);
    dueLed("what is refused is not led", x, 2, 1, 1, 1, 16);
  }

  private static void dueLed(String when, HeaviestLast x, int... led) {
    for (int what = 0; what < 5; what++) due(when + ", led(" + what + ")", x.led(what), led[what]);
  }

  @Edge(promise = 25, says = "LED: crossings, over, FALLS, the heaviest that got over (WEIGHT; 0), the SQUARE of the latest FALL (NOT).")
  static void theHeaviestAndTheLatest() {
    HeaviestLast x = withGoers(20, 0, 60, 0, 30, 0);
    x.go(1, 0);
    due("who fell does not count", x.led(3), 0);
    x.mend(1, LIES, 1);
    x.go(1, 1);
    due("lying its WEIGHT counts whole", x.led(3), 60);
    x.go(0, 1);
    due("the heaviest, not the latest", x.led(3), 60);
    x.mend(15, STRENGTH, 0);
    x.go(0, 1);
    due("the last square", x.led(4), 15);
    x.go(0, 0);
    due("the latest fall", x.led(4), 0);
    x.go(0, 2);
    due("one over is no fall", x.led(4), 0);
    due("in thought nothing is led", thoughtLed(), 0);
  }

  private static int thoughtLed() {
    HeaviestLast x = withLight(1);
    row(x, 0, 0, 0, 1);
    x.over(0, 0, 0);
    x.judge(0);
    x.drawn(1, 10, 0);
    x.load(0, 1, 1);
    return x.led(0) + x.of(0, NOW);
  }

  // ---- 26, 27

  @Edge(promise = 26, says = "AN IMAGE keeps WEAK, NOW, what LED tells.")
  static void whatAnImageKeeps() {
    HeaviestLast x = withGoers(1, 9, 60, 0);
    x.mend(0, STRENGTH, 40);
    x.go(0, 0);
    x.go(1, 2);
    due("NOW", x.image(), 4);
    x.go(0, 0);
    x.go(0, 1);
    x.mend(0, STRENGTH, 50);
    x.mend(0, WEIGHT, 2);
    x.goer(7, 7);
    law(x, "3");
    x.feed('1');
    x.back();
    due("WEAK", x.of(0, WEAK), 5);
    due("WEAK", x.of(8, WEAK), 0);
    due("WEAK", x.of(16, WEAK), 97);
    due("NOW", x.of(0, NOW), 4);
    dueLed("as it was", x, 2, 1, 1, 1, 16);
    due("STRENGTH stays", x.of(0, STRENGTH), 50);
    due("WEIGHT stays", x.of(0, WEIGHT), 2);
    due("goers stay", x.count(0), 3);
    due("the tape stays", x.count(2), 1);
    due("changes stay", x.count(3), 3);
    x.go(0, 1);
    due("the law stays", x.of(8, WEAK), 1);
  }

  @Edge(promise = 26, says = "AN IMAGE is kept: NOW.")
  static void theLatestImage() {
    HeaviestLast x = withLight(1);
    due("at first", x.image(), 0);
    x.stay(5);
    due("a later one", x.image(), 5);
    x.stay(5);
    due("the later one", x.back(), 5);
  }

  @Edge(promise = 27, says = "It is laid back: NOW. STATE: there is none.")
  static void noImageYet() {
    HeaviestLast x = withGoers(1, 9);
    x.go(0, 0);
    due("none", x.back(), STATE);
    due("nothing changed", x.of(0, WEAK), 7);
    due("nothing changed", x.of(0, NOW), 2);
    due("nothing changed", x.led(0), 1);
    x.image();
    x.go(0, 0);
    due("laid back", x.back(), 2);
    due("WEAK", x.of(0, WEAK), 7);
    x.go(0, 0);
    due("and again", x.back(), 2);
    due("WEAK", x.of(0, WEAK), 7);
    HeaviestLast first = withLight(1);
    first.image();
    first.stay(9);
    due("of minute 0", first.back(), 0);
  }

  // ---- 28, 29

  @Edge(promise = 28, says = "UNDONE: how many may still be. STATE: none.")
  static void nothingToUndo() {
    HeaviestLast x = withGoers(20, 7);
    due("none", x.undo(), STATE);
    x.mend(0, STRENGTH, 31);
    due("one", x.undo(), 0);
    due("30 again", x.of(0, STRENGTH), 30);
    due("none is left", x.undo(), STATE);
    due("30 still", x.of(0, STRENGTH), 30);
    due("it can still be done again", x.redo(), 0);
  }

  @Edge(promise = 28, says = "CHANGES (STRENGTH, MENDS, THIN, LESS of SQUARES; all numbers of GOERS; SUNNY; telling the same number is none)")
  static void whatIsAChange() {
    int[] other = {31, 2, 1, 11, 21, 1, 8, 3, 998};
    for (int what = 0; what <= SUNNY; what++) {
      HeaviestLast x = withGoers(20, 7);
      int first = x.of(0, what);
      due("the same", x.mend(0, what, first), first);
      due("is none", x.count(3), 0);
      x.mend(0, what, other[what]);
      due("a change", x.count(3), 1);
      due("the same again", x.mend(0, what, other[what]), other[what]);
      due("is none", x.count(3), 1);
      due("undone", x.undo(), 0);
      due("as it was", x.of(0, what), first);
      due("done again", x.redo(), 0);
      due("as it became", x.of(0, what), other[what]);
    }
    HeaviestLast x = withGoers(20, 7);
    row(x, 0, 5, 5, 5);
    x.goers(0, 0, 1);
    x.go(0, 0);
    x.stay(1);
    x.image();
    x.back();
    law(x, "1");
    x.body(0);
    due("nothing else is one", x.undo(), STATE);
  }

  @Edge(promise = 28, says = "can be UNDONE, the latest first,")
  static void theLatestFirst() {
    HeaviestLast x = withGoers(20, 7);
    x.mend(23, LESS, 99);
    x.mend(0, WEIGHT, 60);
    x.mend(23, LESS, 0);
    due("two may still be", x.undo(), 2);
    due("LESS", x.of(23, LESS), 99);
    due("WEIGHT", x.of(0, WEIGHT), 60);
    due("one may still be", x.undo(), 1);
    due("WEIGHT", x.of(0, WEIGHT), 20);
    due("none may still be", x.undo(), 0);
    due("LESS", x.of(23, LESS), 10);
  }

  @Edge(promise = 28, says = "40 at most are kept.")
  static void fortyAreKept() {
    for (int changes : new int[] {39, 40, 41, 79, 80, 81}) {
      HeaviestLast x = new HeaviestLast();
      for (int v = 1; v <= changes; v++) x.mend(v % 5, v % 3 == 0 ? STRENGTH : LESS, v);
      int kept = Math.min(40, changes);
      int lost = changes - kept;
      due(changes + " changes", x.count(3), kept);
      for (int v = changes; v > lost; v--) {
        due("it is there", changed(x, v), v);
        due("may still be", x.undo(), v - 1 - lost);
        due("it is gone", changed(x, v) == v ? 1 : 0, 0);
      }
      due("no more", x.undo(), STATE);
      if (lost > 0) due("the oldest stay", changed(x, lost), lost);
      for (int v = lost + 1; v <= changes; v++) {
        due("may be again", x.redo(), changes - v);
        due("it is there again", changed(x, v), v);
      }
      due("no more", x.redo(), STATE);
    }
  }

  /** What the v-th of the changes above has made v. */
  private static int changed(HeaviestLast x, int v) {
    return x.of(v % 5, v % 3 == 0 ? STRENGTH : LESS);
  }

  @Edge(promise = 29, says = "DONE AGAIN: how many may still be. STATE: none.")
  static void nothingToDoAgain() {
    HeaviestLast x = withGoers(20, 7);
    due("none", x.redo(), STATE);
    x.mend(0, STRENGTH, 31);
    due("none was undone", x.redo(), STATE);
    x.mend(0, STRENGTH, 32);
    x.undo();
    x.undo();
    due("one may still be", x.redo(), 1);
    due("31", x.of(0, STRENGTH), 31);
    due("none may still be", x.redo(), 0);
    due("32", x.of(0, STRENGTH), 32);
    due("no more", x.redo(), STATE);
    due("both may be undone", x.count(3), 2);
  }

  @Edge(promise = 29, says = "DONE AGAIN (as long as no other came behind);")
  static void anotherCameBehind() {
    HeaviestLast x = withGoers(20, 7);
    x.mend(0, STRENGTH, 31);
    x.mend(0, STRENGTH, 32);
    x.undo();
    x.mend(0, STRENGTH, 31);
    x.mend(0, STRENGTH, 100);
    x.mend(24, STRENGTH, 5);
    due("the same number, or a refused one, is no other", x.redo(), 0);
    x.undo();
    x.undo();
    x.mend(5, THIN, 3);
    due("another came", x.redo(), STATE);
    due("30 still", x.of(0, STRENGTH), 30);
    due("that one can be undone", x.undo(), 0);
    due("and done again", x.redo(), 0);
    due("THIN", x.of(5, THIN), 3);
  }

  @Edge(promise = 29, says = "40 at most are kept.")
  static void fortyWithSomeUndone() {
    HeaviestLast x = new HeaviestLast();
    for (int v = 1; v <= 40; v++) x.mend(0, LESS, 10 + v);
    for (int k = 0; k < 3; k++) x.undo();
    x.mend(1, LESS, 77);
    due("37 and one", x.count(3), 38);
    due("the three are gone", x.redo(), STATE);
    x.mend(1, LESS, 78);
    x.mend(1, LESS, 79);
    x.mend(1, LESS, 80);
    due("40", x.count(3), 40);
    for (int k = 0; k < 40; k++) x.undo();
    due("only the oldest was lost", x.of(0, LESS), 11);
    due("all undone", x.of(1, LESS), 10);
  }
}
