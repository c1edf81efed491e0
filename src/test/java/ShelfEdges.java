/** Edges of promises 30 to 39: bodies and their acts, shelves and their rows, counts. */
final class ShelfEdges extends Edges {
  private static final int BYTES = 0, SHORTS = 1, INTS = 2, LONGS = 3, BOOLEANS = 4;

  /** A pond with one body of each kind, numbered as their kinds. */
  private static HeaviestLast withBodies() {
    HeaviestLast x = new HeaviestLast();
    for (int kind = 0; kind < 8; kind++) x.body(kind);
    return x;
  }

  // ---- 30

  @Edge(promise = 30, says = "A ORDER of a KIND (0 .. 7) is kept: its number. BAD, FULL.")
  static void kindsOfBodies() {
    HeaviestLast x = new HeaviestLast();
    for (int kind : new int[] {-1, 8, MIN, MAX}) due("kind " + kind, x.body(kind), BAD);
    due("none is kept", x.count(4), 0);
    due("the first kind", x.body(0), 0);
    due("the last kind", x.body(7), 1);
    due("two", x.count(4), 2);
  }

  @Edge(promise = 30, says = "kept by call as BODIES 0 .. 49, of KINDS:")
  static void fiftyBodies() {
    HeaviestLast x = new HeaviestLast();
    for (int n = 0; n < 50; n++) due("its number", x.body(n % 8), n);
    for (int kind = 0; kind < 8; kind++) due("the 51st", x.body(kind), FULL);
    due("BAD ahead of FULL", x.body(8), BAD);
    due("BAD ahead of FULL", x.body(-1), BAD);
    due("fifty", x.count(4), 50);
    due("the last one acts", x.act(49, 0, 1), 1 + 49 + 3);
    due("there is no 51st", x.act(50, 0, 1), 0);
  }

  // ---- 31

  @Edge(promise = 31, says = "An ACT (0 .. 3) of a ORDER with x. 0, and no TRACE then: no such ORDER, ACT.")
  static void noSuchAct() {
    HeaviestLast x = withBodies();
    int[][] none = {{0, -1}, {0, 4}, {0, MIN}, {0, MAX}, {-1, 0}, {8, 0}, {MIN, 3}, {MAX, 3}, {-1, 4}};
    for (int[] n : none) {
      due("an act", x.act(7, 3, 5), 28);
      due("it ran", x.count(5), 14);
      due("no such act", x.act(n[0], n[1], 5), 0);
      due("no trace then", x.trace(0), BAD);
      due("none ran", x.count(5), 0);
    }
    HeaviestLast nobody = new HeaviestLast();
    due("no body", nobody.act(0, 0, 7), 0);
    due("no body", nobody.trace(0), BAD);
  }

  @Edge(promise = 31, says = "ACTS with x (an int that wraps):")
  static void xThatWraps() {
    HeaviestLast x = withBodies();
    due("goes: MAX and 1", x.act(1, 0, MAX - 3), MIN);
    due("goes: MAX", x.act(2, 0, MAX - 2), MAX);
    due("goes: twice, MAX and 6", x.act(6, 0, MAX), 2 * (MAX + 6));
    due("bears: MAX twice", x.act(0, 1, MAX), -2);
    due("bears: MIN twice", x.act(0, 1, MIN), 0);
    due("bears: less MIN is MIN", x.act(2, 1, (1 << 30) - 2), MIN);
    due("bears: x and 1", x.act(3, 1, MAX), -2 * (MIN + 3));
    due("waits: x ^ n", x.act(0, 2, MIN), MIN);
    due("waits: three times", x.act(3, 2, MIN), 3 * (MIN ^ 3));
    due("waits: less goes(2)", x.act(4, 2, MIN), (MIN ^ 4) - 9);
    due("tells", x.act(0, 3, 1 << 30), MIN - 1);
  }

  @Edge(promise = 31, says = "goes(..) and so on: the body of its own KIND, or of the next KIND above that has one; super: from the KIND above the body's on.")
  static void theNextKindAbove() {
    int[][] want = {
        {5, 10, 5, 9}, {9, 18, 4, 18}, {7, -14, 7, -17}, {8, -18, 18, -24},
        {12, 24, -8, 28}, {10, -22, 0, -37}, {22, 44, 3, 37}, {15, 23, -10, 28}};
    HeaviestLast x = withBodies();
    for (int kind = 0; kind < 8; kind++) {
      for (int act = 0; act < 4; act++) due("kind " + kind + ", act " + act, x.act(kind, act, 5), want[kind][act]);
    }
  }

  // ---- 32

  @Edge(promise = 32, says = "THE TRACE's i-th body. BAD.")
  static void placesOfTheTrace() {
    HeaviestLast x = withBodies();
    for (int i : new int[] {-1, 0, 1, MIN, MAX}) due("none yet, " + i, x.trace(i), BAD);
    x.act(0, 0, 5);
    due("the only one", x.trace(0), 1);
    for (int i : new int[] {-1, 1, 24, MIN, MAX}) due("place " + i, x.trace(i), BAD);
    x.act(7, 3, 5);
    int[] longest = {81, 2, 80, 10, 20, 1, 50, 11, 20, 1, 50, 11, 20, 1};
    for (int i = 0; i < longest.length; i++) due("place " + i, x.trace(i), longest[i]);
    due("behind the last", x.trace(longest.length), BAD);
  }

  // no act runs more than 14 bodies, so that all are among the first 24
  @Edge(promise = 32, says = "THE TRACE: numbers of the bodies that ran in the latest act(), as they began; the first 24 are kept.")
  static void theLatestTrace() {
    HeaviestLast x = withBodies();
    int[] most = {4, 5, 5, 7, 8, 8, 5, 14};
    for (int kind = 0; kind < 8; kind++) {
      x.act(kind, 3, 5);
      due("how many ran", x.count(5), most[kind]);
      for (int i = 0; i < 25; i++) due("place " + i, x.trace(i) == BAD ? 1 : 0, i < most[kind] ? 0 : 1);
    }
    x.act(0, 2, 5);
    due("the latest", x.trace(0), 11);
    due("nothing of those ahead", x.trace(1), BAD);
  }

  // ---- 33

  @Edge(promise = 33, says = "A SHELF holds nothing (body -1), or a ORDER: 1. BAD.")
  static void whatIsKept() {
    HeaviestLast x = new HeaviestLast();
    due("there is no body", x.keep(0, 0), BAD);
    due("nothing", x.keep(0, -1), 1);
    x.body(7);
    due("the body", x.keep(0, 0), 1);
    due("it is there", x.taken(0, 0), 7);
    for (int body : new int[] {-2, 1, 50, MIN, MAX}) due("body " + body, x.keep(0, body), BAD);
    due("it is still there", x.taken(0, 0), 7);
    due("nothing", x.keep(0, -1), 1);
    due("nothing is there", x.taken(0, 0), MISSING);
  }

  @Edge(promise = 33, says = "SHELVES 0 .. 5 each hold nothing (at first), a ORDER (a BODY), or a ROW:")
  static void sixShelves() {
    HeaviestLast x = withBodies();
    for (int shelf = 0; shelf < 6; shelf++) due("nothing at first", x.taken(shelf, 0), MISSING);
    for (int shelf = 0; shelf < 6; shelf++) due("keep", x.keep(shelf, shelf), 1);
    for (int shelf = 0; shelf < 6; shelf++) due("its own", x.taken(shelf, 0), shelf);
    for (int shelf : new int[] {-1, 6, MIN, MAX}) {
      due("shelf " + shelf, x.keep(shelf, 0), BAD);
      due("shelf " + shelf, x.keep(shelf, -1), BAD);
    }
    row(x, 5, 1, 2);
    due("a row instead", x.taken(5, 0), OTHER_KIND);
    dueRow("a row instead", x, 5, 1, 2);
    x.keep(5, 6);
    due("a body instead", x.taken(5, 0), 6);
    due("no row any more", x.put(5, 0, 1), OTHER_KIND);
    x.keep(5, -1);
    due("nothing instead", x.put(5, 0, 1), MISSING);
  }

  // ---- 34

  @Edge(promise = 34, says = "A SHELF holds a ROW: 1. BAD (sort, n above 60); -14.")
  static void sizesOfRows() {
    HeaviestLast x = new HeaviestLast();
    for (int shelf : new int[] {-1, 6, MIN, MAX}) due("shelf " + shelf, x.row(shelf, BYTES, 1), BAD);
    for (int sort : new int[] {-1, 5, MIN, MAX}) due("sort " + sort, x.row(0, sort, 1), BAD);
    for (int n : new int[] {61, 62, MAX}) due("n " + n, x.row(0, BYTES, n), BAD);
    for (int n : new int[] {-1, -61, MIN}) due("n " + n, x.row(0, BYTES, n), BELOW_ZERO);
    due("BAD ahead of -14", x.row(6, BYTES, -1), BAD);
    due("BAD ahead of -14", x.row(0, 5, -1), BAD);
    due("nothing is there still", x.put(0, 0, 1), MISSING);
    due("none", x.row(0, BYTES, 0), 1);
    due("no place 0", x.put(0, 0, 1), NO_PLACE);
    due("sixty", x.row(0, BYTES, 60), 1);
    due("the last place", x.put(0, 59, 1), 1);
    due("no place 60", x.put(0, 60, 1), NO_PLACE);
    due("a refused one changes nothing", x.row(0, BYTES, -1), BELOW_ZERO);
    due("it is still there", x.element(0, 59), 1);
  }

  @Edge(promise = 34, says = "of 0 bytes, 1 shorts, 2 ints, 3 longs, 4 booleans, of 0 .. 60 elements, 0 at first (false);")
  static void rowsAtFirst() {
    HeaviestLast x = new HeaviestLast();
    for (int sort = 0; sort < 5; sort++) {
      due("a row", x.row(1, sort, 60), 1);
      for (int i = 0; i < 60; i += 59) {
        due("0 at first", x.element(1, i), 0);
        x.put(1, i, -1);
      }
      due("another", x.row(1, sort, 60), 1);
      due("0 at first again", x.element(1, 0), 0);
      due("0 at first again", x.element(1, 59), 0);
      due("a shorter one", x.row(1, sort, 3), 1);
      due("it has no place 3", x.element(1, 3), REFUSED);
    }
  }

  // ---- 35

  private static void duePut(int sort, long v, long kept) {
    HeaviestLast x = new HeaviestLast();
    x.row(0, sort, 3);
    due("put " + v, x.put(0, 1, v), 1);
    dueRow("sort " + sort + ", " + v, x, 0, 0, kept, 0);
  }

  @Edge(promise = 35, says = "what is put in keeps its lowest bits (a boolean: whether it is not 0; 1 or 0).")
  static void lowestBits() {
    duePut(BYTES, 127, 127);
    duePut(BYTES, 128, -128);
    duePut(BYTES, -128, -128);
    duePut(BYTES, -129, 127);
    duePut(BYTES, 255, -1);
    duePut(BYTES, 256, 0);
    duePut(SHORTS, 32767, 32767);
    duePut(SHORTS, 32768, -32768);
    duePut(SHORTS, -32769, 32767);
    duePut(SHORTS, 65536, 0);
    duePut(INTS, MAX, MAX);
    duePut(INTS, MAX + 1L, MIN);
    duePut(INTS, MIN - 1L, MAX);
    duePut(INTS, 1L << 32, 0);
    duePut(LONGS, Long.MAX_VALUE, Long.MAX_VALUE);
    duePut(LONGS, Long.MIN_VALUE, Long.MIN_VALUE);
    duePut(BOOLEANS, 0, 0);
    for (long v : new long[] {1, -1, 2, 256, 1L << 32, Long.MIN_VALUE, Long.MAX_VALUE}) duePut(BOOLEANS, v, 1);
    for (int sort = 0; sort < 4; sort++) duePut(sort, -1, -1);
  }

  @Edge(promise = 35, says = "Element i of a ROW becomes v: 1. BAD, -11, -12, -13.")
  static void putRefuses() {
    HeaviestLast x = new HeaviestLast();
    row(x, 0, 1, 2, 3);
    x.row(1, BYTES, 0);
    x.body(0);
    x.keep(2, 0);
    for (int shelf : new int[] {-1, 6, MIN, MAX}) {
      due("shelf " + shelf, x.put(shelf, 0, 9), BAD);
      due("BAD ahead of -13", x.put(shelf, -1, 9), BAD);
    }
    for (int i : new int[] {-1, 3, 60, MIN, MAX}) {
      due("place " + i, x.put(0, i, 9), NO_PLACE);
      due("-11 ahead of -13", x.put(5, i, 9), MISSING);
      due("-12 ahead of -13", x.put(2, i, 9), OTHER_KIND);
    }
    due("an empty row has no place 0", x.put(1, 0, 9), NO_PLACE);
    due("nothing is there", x.put(5, 0, 9), MISSING);
    due("a body", x.put(2, 0, 9), OTHER_KIND);
    dueRow("nothing changed", x, 0, 1, 2, 3);
    due("the first", x.put(0, 0, 7), 1);
    due("the last", x.put(0, 2, 8), 1);
    dueRow("only those", x, 0, 7, 2, 8);
  }

  // ---- 36

  @Edge(promise = 36, says = "Element i of a ROW; Long.MIN_VALUE: BAD, -11 to -13.")
  static void elementRefuses() {
    HeaviestLast x = new HeaviestLast();
    row(x, 0, 1, 2, 3);
    x.row(1, LONGS, 0);
    x.body(0);
    x.keep(2, 0);
    due("the first", x.element(0, 0), 1);
    due("the last", x.element(0, 2), 3);
    for (int i : new int[] {-1, 3, 60, MIN, MAX}) due("place " + i, x.element(0, i), Long.MIN_VALUE);
    for (int shelf : new int[] {-1, 6, MIN, MAX}) due("shelf " + shelf, x.element(shelf, 0), Long.MIN_VALUE);
    due("an empty row", x.element(1, 0), Long.MIN_VALUE);
    due("a body", x.element(2, 0), Long.MIN_VALUE);
    due("nothing", x.element(5, 0), Long.MIN_VALUE);
  }

  @Edge(promise = 36, says = "The host's REFUSALS: -11 nothing is there where something is wanted; -12 it is of another kind; -13 a place that is not there; -14 a size below 0.")
  static void whatTheHostRefuses() {
    HeaviestLast x = new HeaviestLast();
    due("nothing is there", x.put(0, 0, 1), MISSING);
    due("nothing is there", x.element(0, 0), REFUSED);
    due("a size below 0", x.row(0, BYTES, -1), BELOW_ZERO);
    x.row(0, BYTES, 1);
    due("a place that is not there", x.put(0, 1, 1), NO_PLACE);
    due("of another kind", x.taken(0, 0), OTHER_KIND);
    due("it is there", x.element(0, 0), 0);
  }

  // ---- 37

  @Edge(promise = 37, says = "come to another one (or the same) from j on, as they all were before: n.")
  static void asTheyWereBefore() {
    HeaviestLast x = new HeaviestLast();
    row(x, 0, 1, 2, 3, 4, 5);
    due("upward in the same", x.shift(0, 0, 0, 1, 4), 4);
    dueRow("upward", x, 0, 1, 1, 2, 3, 4);
    due("downward in the same", x.shift(0, 1, 0, 0, 4), 4);
    dueRow("downward", x, 0, 1, 2, 3, 4, 4);
    due("onto itself", x.shift(0, 0, 0, 0, 5), 5);
    dueRow("onto itself", x, 0, 1, 2, 3, 4, 4);
    row(x, 1, 9, 9, 9);
    due("to another", x.shift(0, 3, 1, 1, 2), 2);
    dueRow("to another", x, 1, 9, 4, 4);
    dueRow("the one stays", x, 0, 1, 2, 3, 4, 4);
    for (int sort = 0; sort < 5; sort++) {
      x.row(2, sort, 60);
      x.row(3, sort, 60);
      x.put(2, 0, 1);
      x.put(2, 59, 1);
      due("a whole row", x.shift(2, 0, 3, 0, 60), 60);
      due("its first", x.element(3, 0), 1);
      due("its last", x.element(3, 59), 1);
    }
  }

  @Edge(promise = 37, says = "n elements of a ROW from i on")
  static void noneOfThem() {
    HeaviestLast x = new HeaviestLast();
    row(x, 0, 1, 2, 3);
    x.row(1, BYTES, 0);
    due("none at the first place", x.shift(0, 0, 0, 0, 0), 0);
    due("none at the end", x.shift(0, 3, 0, 3, 0), 0);
    due("none of an empty row", x.shift(1, 0, 1, 0, 0), 0);
    due("none to an empty row", x.shift(0, 3, 1, 0, 0), 0);
    due("one to an empty row", x.shift(0, 0, 1, 0, 1), NO_PLACE);
    dueRow("nothing changed", x, 0, 1, 2, 3);
  }

  @Edge(promise = 37, says = "BAD, -11 (either), -12 (no ROWS, or of unlike sorts), -13.")
  static void shiftRefuses() {
    HeaviestLast x = new HeaviestLast();
    row(x, 0, 1, 2, 3);
    row(x, 1, 7, 8);
    x.row(2, SHORTS, 3);
    x.body(0);
    x.keep(3, 0);
    for (int shelf : new int[] {-1, 6, MIN, MAX}) {
      due("from shelf " + shelf, x.shift(shelf, 0, 0, 0, 1), BAD);
      due("to shelf " + shelf, x.shift(0, 0, shelf, 0, 1), BAD);
      due("BAD ahead of -11", x.shift(4, 0, shelf, 0, 1), BAD);
      due("BAD ahead of -12", x.shift(shelf, 0, 3, 0, 1), BAD);
    }
    due("nothing to take", x.shift(4, 0, 0, 0, 1), MISSING);
    due("nothing to take it", x.shift(0, 0, 4, 0, 1), MISSING);
    due("-11 ahead of -12", x.shift(3, 0, 4, 0, 1), MISSING);
    due("-11 ahead of -12", x.shift(4, 0, 3, 0, 1), MISSING);
    due("-11 ahead of -13", x.shift(4, -1, 0, 0, 1), MISSING);
    due("a body", x.shift(3, 0, 0, 0, 1), OTHER_KIND);
    due("to a body", x.shift(0, 0, 3, 0, 1), OTHER_KIND);
    due("a body to itself", x.shift(3, 0, 3, 0, 0), OTHER_KIND);
    for (int sort = 1; sort < 5; sort++) {
      x.row(2, sort, 3);
      due("bytes to sort " + sort, x.shift(0, 0, 2, 0, 0), OTHER_KIND);
      due("sort " + sort + " to bytes", x.shift(2, 0, 0, 0, 1), OTHER_KIND);
      due("-12 ahead of -13", x.shift(2, -1, 0, 0, 99), OTHER_KIND);
    }
    int[][] places = {{-1, 0, 1}, {0, -1, 1}, {3, 0, 1}, {0, 2, 1}, {0, 0, 3}, {1, 0, 3}, {2, 0, 2}, {0, 1, 2}, {4, 0, 0},
        {0, 3, 0}, {0, 0, -1}, {-1, 0, 0}, {0, -1, 0}, {MIN, 0, 1}, {MAX, 0, 1}, {0, MIN, 1}, {0, MAX, 1}, {1, 0, MAX},
        {0, 1, MAX}, {0, 0, MIN}, {MAX, MAX, MAX}, {MIN, MIN, MIN}};
    for (int[] p : places) due("place " + p[0] + ", " + p[1] + ", " + p[2], x.shift(0, p[0], 1, p[1], p[2]), NO_PLACE);
    dueRow("nothing changed", x, 0, 1, 2, 3);
    dueRow("nothing changed", x, 1, 7, 8);
  }

  // ---- 38

  @Edge(promise = 38, says = "What a SHELF holds, taken for a ORDER of KIND k (0 .. 7), or under it: its KIND. BAD, -11, -12.")
  static void takenForAKind() {
    // by kinds: the bits of those it is, or is under
    int[] is = {0b1, 0b11, 0b101, 0b1101, 0b10011, 0b101101, 0b1000001, 0b10010011};
    HeaviestLast x = withBodies();
    for (int kind = 0; kind < 8; kind++) {
      x.keep(5, kind);
      for (int k = 0; k < 8; k++) due(kind + " for " + k, x.taken(5, k), (is[kind] >> k & 1) == 1 ? kind : OTHER_KIND);
    }
    for (int k : new int[] {-1, 8, MIN, MAX}) {
      due("kind " + k, x.taken(5, k), BAD);
      due("BAD ahead of -11", x.taken(0, k), BAD);
    }
    for (int shelf : new int[] {-1, 6, MIN, MAX}) due("shelf " + shelf, x.taken(shelf, 0), BAD);
    due("nothing", x.taken(0, 7), MISSING);
    for (int sort = 0; sort < 5; sort++) {
      x.row(1, sort, 3);
      for (int k = 0; k < 8; k += 7) due("a row", x.taken(1, k), OTHER_KIND);
      due("BAD ahead of -12", x.taken(1, 8), BAD);
    }
  }

  // ---- 39

  @Edge(promise = 39, says = "4 BODIES, 5 bodies that ran in the latest act(). BAD.")
  static void whatIsCounted() {
    HeaviestLast x = new HeaviestLast();
    for (int what : new int[] {-1, 6, MIN, MAX}) due("what " + what, x.count(what), BAD);
    for (int what = 0; what < 6; what++) due("none at first", x.count(what), 0);
    for (int n = 0; n < 8; n++) x.goer(1, 0);
    due("seven goers, not eight", x.count(0), 7);
    for (int n = 0; n < 121; n++) x.feed('1');
    due("120 bytes, not 121", x.count(2), 120);
    for (int v = 1; v <= 41; v++) x.mend(0, LESS, 10 + v);
    due("40 changes, not 41", x.count(3), 40);
    for (int n = 0; n < 51; n++) x.body(7);
    due("50 bodies, not 51", x.count(4), 50);
    x.act(0, 3, 1);
    due("14 ran", x.count(5), 14);
    x.act(0, 4, 1);
    due("none ran", x.count(5), 0);
  }

  @Edge(promise = 39, says = "1 SQUARES that are WEAK,")
  static void squaresThatAreWeak() {
    HeaviestLast x = withGoers(60, 0, 1, 9);
    x.mend(16, MENDS, 9);
    x.go(1, 0);
    x.go(1, 1);
    x.go(1, 2);
    due("all but the one that mends at once", x.count(1), 23);
    x.stay(6);
    due("seven of the last way are left", x.count(1), 7);
    x.stay(1);
    due("none", x.count(1), 0);
    x.go(0, 0);
    due("where one fell", x.count(1), 1);
    x.stay(96);
    due("1 weak is weak", x.count(1), 1);
    x.stay(1);
    due("0 weak is not", x.count(1), 0);
  }
}
