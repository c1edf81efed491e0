/** What the tests of edges share: ponds to begin with, and answers held against those that are due. */
abstract class Edges {
  static final int BAD = -1, NOT = -2, FULL = -3, STATE = -5;
  static final int MISSING = -11, OTHER_KIND = -12, NO_PLACE = -13, BELOW_ZERO = -14;
  static final int MIN = Integer.MIN_VALUE, MAX = Integer.MAX_VALUE;
  static final long REFUSED = Long.MIN_VALUE;
  static final int STRENGTH = 0, MENDS = 1, THIN = 2, LESS = 3, WEIGHT = 4, LIES = 5, TAKES = 6, PACE = 7, SUNNY = 8;
  static final int WEAK = 10, BEARS = 11, NOW = 12;

  private static String test = "";
  private static int passed = 0;
  private static int failed = 0;

  interface Call {
    long on(HeaviestLast x);
  }

  /** A call that goes by a row on a shelf and by a way. */
  interface ByShelfAndWay {
    long on(HeaviestLast x, int shelf, int way);
  }

  static void begin(String name) {
    test = name;
  }

  static int failures() {
    return failed;
  }

  static int passes() {
    return passed;
  }

  static void due(String what, long got, long want) {
    if (got == want) {
      passed++;
      return;
    }
    fail(what + ": answered " + got + ", due is " + want);
  }

  static void fail(String why) {
    failed++;
    System.out.println(test + ": " + why);
  }

  static HeaviestLast withGoers(int... weightsAndTakes) {
    HeaviestLast x = new HeaviestLast();
    for (int i = 0; i < weightsAndTakes.length; i += 2) x.goer(weightsAndTakes[i], weightsAndTakes[i + 1]);
    return x;
  }

  /** So many goers who weigh 1 and take nothing. */
  static HeaviestLast withLight(int many) {
    HeaviestLast x = new HeaviestLast();
    for (int g = 0; g < many; g++) x.goer(1, 0);
    return x;
  }

  static void wholeWay(HeaviestLast x, int way, int what, int v) {
    for (int place = 0; place < 8; place++) x.mend(8 * way + place, what, v);
  }

  /** A pond whose way 0 is 99 strong and does not mend, so that WEAK tells what a crossing took. */
  static HeaviestLast hard(int... weightsAndTakes) {
    HeaviestLast x = withGoers(weightsAndTakes);
    wholeWay(x, 0, STRENGTH, 99);
    wholeWay(x, 0, MENDS, 0);
    return x;
  }

  /** A pond where THIN squares would let nobody over, if they counted. */
  static HeaviestLast allThin(int... weightsAndTakes) {
    HeaviestLast x = withGoers(weightsAndTakes);
    for (int q = 0; q < 24; q++) {
      x.mend(q, THIN, 12);
      x.mend(q, LESS, 99);
    }
    return x;
  }

  static void row(HeaviestLast x, int shelf, int... bytes) {
    x.row(shelf, 0, bytes.length);
    for (int i = 0; i < bytes.length; i++) x.put(shelf, i, bytes[i]);
  }

  /** A row of bytes that are all alike. */
  static void rowOf(HeaviestLast x, int shelf, int many, int v) {
    x.row(shelf, 0, many);
    for (int i = 0; i < many; i++) x.put(shelf, i, v);
  }

  static int law(HeaviestLast x, String text) {
    for (int i = 0; i < text.length(); i++) x.feed(text.charAt(i));
    return x.law();
  }

  static void dueRow(String what, HeaviestLast x, int shelf, long... want) {
    for (int i = 0; i < want.length; i++) due(what + ", " + i, x.element(shelf, i), want[i]);
    due(what + " ends", x.element(shelf, want.length), REFUSED);
  }

  /** What every call that goes by a row of bytes and a way refuses, and which refusal is ahead of which. */
  static void dueRefusals(ByShelfAndWay call, long bad, long missing, long otherKind) {
    HeaviestLast x = withLight(1);
    row(x, 0, 0);
    x.body(0);
    x.keep(3, 0);
    for (int shelf : new int[] {-1, 6, MIN, MAX}) due("shelf " + shelf, call.on(x, shelf, 0), bad);
    for (int way : new int[] {-1, 3, MIN, MAX}) {
      due("way " + way, call.on(x, 0, way), bad);
      due("BAD ahead of -11, way " + way, call.on(x, 1, way), bad);
      due("BAD ahead of -12, way " + way, call.on(x, 3, way), bad);
    }
    for (int shelf : new int[] {1, 5}) due("nothing on shelf " + shelf, call.on(x, shelf, 0), missing);
    due("a body", call.on(x, 3, 0), otherKind);
    for (int sort = 1; sort < 5; sort++) {
      x.row(2, sort, 3);
      due("a row of sort " + sort, call.on(x, 2, 2), otherKind);
    }
    x.keep(0, -1);
    due("nothing again", call.on(x, 0, 0), missing);
  }
}
