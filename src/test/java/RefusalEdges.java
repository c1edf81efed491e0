/** What is refused changes nothing, and of several refusals the one named first is told: for each call that refuses. */
final class RefusalEdges extends Edges {
  private static final String SEVERAL = "Answers, of several the one named first:";
  private static final String NOTHING = "What is answered so changes nothing.";

  /** A pond in which there is something of everything; only its first shelves are taken. */
  private static HeaviestLast busy(int goers) {
    HeaviestLast x = new HeaviestLast();
    for (int g = 0; g < goers; g++) x.goer(10 + g, 3);
    law(x, "t+1");
    x.feed('4');
    x.feed('+');
    row(x, 0, 1, 0, 2);
    x.row(1, 2, 3);
    x.put(1, 1, 70000);
    for (int kind = 0; kind < 8; kind++) x.body(kind);
    x.keep(2, 7);
    row(x, 3, 5, 5, 5, 0, 1);
    x.mend(3, STRENGTH, 44);
    x.mend(9, THIN, 4);
    x.mend(0, SUNNY, 6);
    x.undo();
    x.go(1, 0);
    x.image();
    x.go(0, 1);
    x.act(7, 3, 5);
    return x;
  }

  /** All that can be asked of a pond, in a text; at last its tape, law, image and changes are used up for it. */
  private static String told(HeaviestLast x) {
    StringBuilder s = new StringBuilder();
    for (int q = 0; q < 24; q++) {
      for (int what : new int[] {STRENGTH, MENDS, THIN, LESS, WEAK}) s.append(x.of(q, what)).append(' ');
    }
    for (int g = 0; g < 7; g++) {
      for (int what = WEIGHT; what <= PACE; what++) s.append(x.of(g, what)).append(' ');
    }
    s.append(x.of(0, SUNNY)).append(' ').append(x.of(0, NOW)).append(' ');
    for (int what = 0; what < 6; what++) s.append(x.count(what)).append(' ');
    for (int what = 0; what < 5; what++) s.append(x.led(what)).append(' ');
    for (int i = 0; i < 15; i++) s.append(x.trace(i)).append(' ');
    for (int shelf = 0; shelf < 6; shelf++) {
      s.append(x.taken(shelf, 0)).append(' ');
      for (int i = 0; i < 6; i++) s.append(x.element(shelf, i)).append(' ');
      s.append(x.put(shelf, 0, 70000)).append(' ').append(x.element(shelf, 0)).append(' ');
    }
    s.append(x.go(0, 2)).append(' ').append(x.of(16, WEAK)).append(' ');
    x.feed('1');
    s.append(x.law()).append(' ').append(x.go(0, 2)).append(' ').append(x.of(16, WEAK)).append(' ');
    s.append(x.back()).append(' ').append(x.of(0, WEAK)).append(' ').append(x.of(8, WEAK)).append(' ');
    s.append(x.led(0)).append(' ').append(x.redo()).append(' ').append(x.of(0, SUNNY)).append(' ').append(x.redo());
    for (int k = 0; k < 4; k++) s.append(' ').append(x.undo());
    s.append(' ').append(x.of(3, STRENGTH)).append(' ').append(x.of(9, THIN));
    return s.toString();
  }

  private static void dueUnchanged(int goers, long want, Call... calls) {
    String before = told(busy(goers));
    for (int i = 0; i < calls.length; i++) {
      HeaviestLast x = busy(goers);
      due("call " + i, calls[i].on(x), want);
      due("call " + i + " changed nothing", told(x).equals(before) ? 1 : 0, 1);
    }
  }

  private static void dueUnchanged(long want, Call... calls) {
    dueUnchanged(3, want, calls);
  }

  @Edge(promise = 2, says = NOTHING)
  static void goer() {
    dueUnchanged(BAD, x -> x.goer(0, 0), x -> x.goer(61, 0), x -> x.goer(1, -1), x -> x.goer(1, 61));
    dueUnchanged(7, FULL, x -> x.goer(1, 0));
    dueUnchanged(7, BAD, x -> x.goer(0, 0));
  }

  @Edge(promise = 3, says = NOTHING)
  static void goers() {
    dueUnchanged(BAD, x -> x.goers(-1, 0, 1), x -> x.goers(6, 0, 1), x -> x.goers(3, 0, 0), x -> x.goers(3, 0, 8));
    dueUnchanged(OTHER_KIND, x -> x.goers(1, 0, 1), x -> x.goers(2, 0, 1));
    dueUnchanged(0, x -> x.goers(4, 0, 1), x -> x.goers(3, 3, 1), x -> x.goers(3, -1, 1), x -> x.goers(3, 1, 1));
    dueUnchanged(7, 0, x -> x.goers(3, 0, 1));
  }

  @Edge(promise = 4, says = NOTHING)
  static void mend() {
    dueUnchanged(BAD, x -> x.mend(24, STRENGTH, 1), x -> x.mend(0, STRENGTH, 100), x -> x.mend(3, WEIGHT, 1),
        x -> x.mend(0, 9, 1), x -> x.mend(1, SUNNY, 1), x -> x.mend(0, SUNNY, 1000), x -> x.mend(0, LIES, 2));
    // telling the same number changes nothing either, not even what may be done again
    dueUnchanged(44, x -> x.mend(3, STRENGTH, 44));
    dueUnchanged(999, x -> x.mend(0, SUNNY, 999));
  }

  @Edge(promise = 6, says = NOTHING)
  static void feed() {
    dueUnchanged(BAD, x -> x.feed(-1), x -> x.feed(256));
  }

  @Edge(promise = 6, says = "FULL (-3);")
  static void feedWhatIsFull() {
    HeaviestLast x = hard(1, 0);
    String text = "1" + "+1".repeat(59) + ";";
    for (int i = 0; i < text.length(); i++) x.feed(text.charAt(i));
    due("full", x.feed('9'), FULL);
    due("no byte of it was lost", x.law(), -100 - 120);
    text = "11" + "+1".repeat(59);
    for (int i = 0; i < text.length(); i++) x.feed(text.charAt(i));
    due("full", x.feed('+'), FULL);
    due("nothing came behind it", x.law(), 1);
  }

  @Edge(promise = 5, says = "BAD (-1): no such number, or it is not as said;")
  static void of() {
    dueUnchanged(BAD, x -> x.of(24, WEAK), x -> x.of(3, WEIGHT), x -> x.of(1, NOW), x -> x.of(0, 9));
  }

  @Edge(promise = 8, says = NOTHING)
  static void over() {
    dueUnchanged(BAD, x -> x.over(6, 0, 0), x -> x.over(0, 3, 0), x -> x.over(0, 0, 3), x -> x.over(4, 3, 0));
    dueUnchanged(MISSING, x -> x.over(4, 0, 0));
    dueUnchanged(OTHER_KIND, x -> x.over(1, 0, 0), x -> x.over(2, 0, 0));
    dueUnchanged(NOT, x -> x.over(0, 2, 1));
  }

  @Edge(promise = 9, says = NOTHING)
  static void bears() {
    dueUnchanged(BAD, x -> x.bears(0, 0, 24), x -> x.bears(4, -1, 0), x -> x.bears(1, 0, -1));
    dueUnchanged(MISSING, x -> x.bears(5, 0, 0));
    dueUnchanged(OTHER_KIND, x -> x.bears(2, 0, 0));
  }

  @Edge(promise = 10, says = NOTHING)
  static void all() {
    dueUnchanged(BAD, x -> x.all(3, 0), x -> x.all(0, -2), x -> x.all(3, 9));
    dueUnchanged(NOT, x -> x.all(0, 3), x -> x.all(0, 7));
    dueUnchanged(3, x -> x.all(2, -1));
  }

  @Edge(promise = 10, says = "NOT (-2): as told;")
  static void allWhereThereAreNotAsMany() {
    dueUnchanged(NOT, x -> x.all(0, MAX));
    dueUnchanged(BAD, x -> x.all(-1, MAX));
  }

  @Edge(promise = 11, says = NOTHING)
  static void rule() {
    dueUnchanged(BAD, x -> x.rule(3, 0), x -> x.rule(0, 5), x -> x.rule(0, -1));
    dueUnchanged(3, x -> x.rule(2, 0));
  }

  @Edge(promise = 12, says = NOTHING)
  static void waits() {
    dueUnchanged(BAD, x -> x.waits(0, 0, -3), x -> x.waits(4, 3, 9), x -> x.waits(4, 0, -3));
    dueUnchanged(MISSING, x -> x.waits(4, 0, 9));
    dueUnchanged(OTHER_KIND, x -> x.waits(1, 0, 9));
    dueUnchanged(NOT, x -> x.waits(0, 0, 3));
    dueUnchanged(0, x -> x.waits(0, 2, -1));
  }

  @Edge(promise = 13, says = SEVERAL)
  static void soonest() {
    dueUnchanged(BAD, x -> x.soonest(3, 0), x -> x.soonest(0, -2));
    dueUnchanged(6, BAD, x -> x.soonest(3, 9), x -> x.soonest(0, -2));
    dueUnchanged(6, STATE, x -> x.soonest(0, -1), x -> x.soonest(0, 0), x -> x.soonest(0, 9));
    dueUnchanged(5, NOT, x -> x.soonest(2, 5));
    dueUnchanged(10, x -> x.soonest(2, -1));
  }

  @Edge(promise = 14, says = NOTHING)
  static void strength() {
    dueUnchanged(BAD, x -> x.strength(6, 0), x -> x.strength(4, 3));
    dueUnchanged(MISSING, x -> x.strength(4, 0));
    dueUnchanged(OTHER_KIND, x -> x.strength(2, 0));
  }

  @Edge(promise = 15, says = NOTHING)
  static void load() {
    dueUnchanged(BAD, x -> x.load(30, 1, 1), x -> x.load(3, 1, 1), x -> x.load(0, 0, 1), x -> x.load(0, 1, 10));
    dueUnchanged(NOT, x -> x.load(20, 200, 0));
    dueUnchanged(1, x -> x.load(2, 1, 1));
  }

  @Edge(promise = 16, says = NOTHING)
  static void several() {
    dueUnchanged(BAD, x -> x.several(3), x -> x.several(-2));
    dueUnchanged(3, x -> x.several(-1));
  }

  @Edge(promise = 17, says = NOTHING)
  static void unsure() {
    dueUnchanged(REFUSED, x -> x.unsure(6, 0, 0), x -> x.unsure(0, 3, 0), x -> x.unsure(0, 0, 2), x -> x.unsure(1, 0, 0),
        x -> x.unsure(2, 0, 0), x -> x.unsure(4, 0, 0));
    dueUnchanged(1, x -> x.unsure(0, 2, 0));
  }

  @Edge(promise = 18, says = NOTHING)
  static void bore() {
    dueUnchanged(REFUSED, x -> x.bore(6, 0, 0), x -> x.bore(0, 3, 0), x -> x.bore(0, 0, 3), x -> x.bore(1, 0, 0));
    dueUnchanged(16, x -> x.bore(0, 2, 2));
  }

  @Edge(promise = 19, says = NOTHING)
  static void safe() {
    dueUnchanged(BAD, x -> x.safe(3), x -> x.safe(-1));
    dueUnchanged(0, x -> x.safe(0));
  }

  @Edge(promise = 20, says = NOTHING)
  static void who() {
    dueUnchanged(BAD, x -> x.who(6, 0, 0), x -> x.who(4, 3, 0), x -> x.who(4, 0, 3));
    dueUnchanged(MISSING, x -> x.who(4, 0, 0));
    dueUnchanged(OTHER_KIND, x -> x.who(1, 0, 0));
    dueUnchanged(NOT, x -> x.who(0, 0, 1));
  }

  @Edge(promise = 21, says = NOTHING)
  static void judge() {
    dueUnchanged(BAD, x -> x.judge(6), x -> x.judge(-1));
    dueUnchanged(MISSING, x -> x.judge(4));
    dueUnchanged(OTHER_KIND, x -> x.judge(1), x -> x.judge(2));
    dueUnchanged(0, x -> x.judge(0));
  }

  @Edge(promise = 22, says = NOTHING)
  static void drawn() {
    dueUnchanged(BAD, x -> x.drawn(1, 9, 0), x -> x.drawn(1, 13, 0), x -> x.drawn(1, 210, 0), x -> x.drawn(1, 10, 2));
    dueUnchanged(20, x -> x.drawn(1, 202, 1));
  }

  @Edge(promise = 23, says = NOTHING)
  static void go() {
    dueUnchanged(BAD, x -> x.go(3, 0), x -> x.go(-1, 0), x -> x.go(0, 3), x -> x.go(0, -1));
  }

  @Edge(promise = 24, says = NOTHING)
  static void stay() {
    dueUnchanged(BAD, x -> x.stay(0), x -> x.stay(1000));
  }

  @Edge(promise = 25, says = NOTHING)
  static void led() {
    dueUnchanged(BAD, x -> x.led(5), x -> x.led(-1));
  }

  @Edge(promise = 27, says = "STATE (-5): as told;")
  static void back() {
    HeaviestLast x = withGoers(1, 9);
    x.go(0, 0);
    due("there is none", x.back(), STATE);
    due("nothing changed", x.of(0, WEAK) * 100 + x.of(0, NOW), 702);
  }

  @Edge(promise = 28, says = NOTHING)
  static void undo() {
    HeaviestLast x = withLight(1);
    x.mend(0, STRENGTH, 31);
    x.undo();
    due("none", x.undo(), STATE);
    due("nothing changed", x.of(0, STRENGTH), 30);
    due("none may be undone", x.count(3), 0);
    due("one may be done again", x.redo(), 0);
    due("31", x.of(0, STRENGTH), 31);
  }

  @Edge(promise = 29, says = NOTHING)
  static void redo() {
    HeaviestLast x = withLight(1);
    x.mend(0, STRENGTH, 31);
    due("none", x.redo(), STATE);
    due("nothing changed", x.of(0, STRENGTH), 31);
    due("one may be undone", x.count(3), 1);
  }

  @Edge(promise = 30, says = NOTHING)
  static void body() {
    dueUnchanged(BAD, x -> x.body(8), x -> x.body(-1));
    HeaviestLast full = new HeaviestLast();
    for (int n = 0; n < 50; n++) full.body(0);
    due("full", full.body(7), FULL);
    due("fifty", full.count(4), 50);
    due("the last is as it was", full.act(49, 0, 0), 49);
  }

  @Edge(promise = 32, says = NOTHING)
  static void trace() {
    dueUnchanged(BAD, x -> x.trace(14), x -> x.trace(-1));
  }

  @Edge(promise = 33, says = NOTHING)
  static void keep() {
    dueUnchanged(BAD, x -> x.keep(6, 0), x -> x.keep(-1, -1), x -> x.keep(0, 8), x -> x.keep(2, -2), x -> x.keep(4, 50));
  }

  @Edge(promise = 34, says = SEVERAL)
  static void row() {
    dueUnchanged(BAD, x -> x.row(6, 0, -1), x -> x.row(0, 5, -1), x -> x.row(0, 0, 61), x -> x.row(-1, 0, 1));
    dueUnchanged(BELOW_ZERO, x -> x.row(0, 0, -1), x -> x.row(2, 4, MIN), x -> x.row(4, 0, -1));
  }

  @Edge(promise = 35, says = "-11 to -14.")
  static void put() {
    dueUnchanged(BAD, x -> x.put(6, 0, 1), x -> x.put(-1, 0, 1));
    dueUnchanged(MISSING, x -> x.put(4, 0, 1), x -> x.put(5, -1, 1));
    dueUnchanged(OTHER_KIND, x -> x.put(2, 0, 1), x -> x.put(2, -1, 1));
    dueUnchanged(NO_PLACE, x -> x.put(0, 3, 1), x -> x.put(0, -1, 1), x -> x.put(1, 3, 1));
  }

  @Edge(promise = 36, says = NOTHING)
  static void element() {
    dueUnchanged(REFUSED, x -> x.element(6, 0), x -> x.element(4, 0), x -> x.element(2, 0), x -> x.element(0, 3));
  }

  @Edge(promise = 37, says = SEVERAL)
  static void shift() {
    dueUnchanged(BAD, x -> x.shift(6, 0, 4, 0, 1), x -> x.shift(4, 0, 6, 0, 1));
    dueUnchanged(MISSING, x -> x.shift(4, 0, 2, 0, 1), x -> x.shift(2, 0, 4, 9, 9), x -> x.shift(0, 9, 4, 0, 1));
    dueUnchanged(OTHER_KIND, x -> x.shift(0, 9, 1, 0, 1), x -> x.shift(2, 0, 0, 0, 1), x -> x.shift(0, 0, 2, 0, 0));
    dueUnchanged(NO_PLACE, x -> x.shift(0, 0, 3, 0, 4), x -> x.shift(3, 0, 0, 1, 3), x -> x.shift(0, 0, 3, 0, -1));
  }

  @Edge(promise = 38, says = NOTHING)
  static void taken() {
    dueUnchanged(BAD, x -> x.taken(6, 0), x -> x.taken(2, 8), x -> x.taken(4, 8));
    dueUnchanged(MISSING, x -> x.taken(4, 0));
    dueUnchanged(OTHER_KIND, x -> x.taken(0, 0), x -> x.taken(2, 2));
  }

  @Edge(promise = 39, says = NOTHING)
  static void count() {
    dueUnchanged(BAD, x -> x.count(6), x -> x.count(-1));
  }
}
