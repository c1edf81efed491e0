/** Each call that goes by a way: by the first, by the last, and by no square beside it. */
final class WayEdges extends Edges {
  private static final String EACH_WAY = "2 of eight SQUARES each (SQUARE 0 .. 23: 8 times the WAY and its place):";

  /** A call answers one thing by a way of eight squares that bear 30, and another by the ways beside it, which bear nothing. */
  private static void dueByWays(ByShelfAndWay call, long borne, long fallen) {
    for (int way = 0; way < 3; way++) {
      HeaviestLast x = withGoers(30, 9);
      row(x, 0, 0);
      for (int other = 0; other < 3; other++) if (other != way) wholeWay(x, other, STRENGTH, 0);
      for (int by = 0; by < 3; by++) due("by way " + by + " of " + way, call.on(x, 0, by), by == way ? borne : fallen);
      for (int place : new int[] {0, 7}) {
        x.mend(8 * way + place, STRENGTH, 29);
        due("place " + place + " does not bear it", call.on(x, 0, way), fallen);
        x.mend(8 * way + place, STRENGTH, 30);
      }
    }
  }

  @Edge(promise = 8, says = EACH_WAY)
  static void overByEachWay() {
    dueByWays((x, shelf, way) -> x.over(shelf, way, 0), 1, 0);
  }

  @Edge(promise = 9, says = EACH_WAY)
  static void bearsByEachWay() {
    for (int way = 0; way < 3; way++) {
      HeaviestLast x = withGoers(30, 9);
      row(x, 0, 0);
      for (int q = 0; q < 24; q++) due("square " + q, x.bears(0, way, q), q / 8 == way ? 23 : 30);
    }
  }

  @Edge(promise = 10, says = EACH_WAY)
  static void allByEachWay() {
    dueByWays((x, shelf, way) -> x.all(way, -1), 1, 0);
  }

  @Edge(promise = 11, says = EACH_WAY)
  static void rulesByEachWay() {
    for (int rule = 0; rule < 4; rule++) {
      int r = rule;
      dueByWays((x, shelf, way) -> x.rule(way, r), 1, 0);
    }
  }

  @Edge(promise = 12, says = EACH_WAY)
  static void waitsByEachWay() {
    dueByWays((x, shelf, way) -> {
      row(x, 1, 0, 0);
      return x.waits(1, way, 1);
    }, 7, 0);
  }

  @Edge(promise = 13, says = EACH_WAY)
  static void soonestByEachWay() {
    dueByWays((x, shelf, way) -> x.soonest(way, -1), 2, NOT);
  }

  @Edge(promise = 14, says = EACH_WAY)
  static void strengthByEachWay() {
    dueByWays((x, shelf, way) -> x.strength(shelf, way), 30, 30);
  }

  @Edge(promise = 15, says = EACH_WAY)
  static void loadByEachWay() {
    dueByWays((x, shelf, way) -> {
      x.mend(0, WEIGHT, 29);
      return x.load(way, 1, 1);
    }, 1, 0);
  }

  @Edge(promise = 16, says = EACH_WAY)
  static void severalByEachWay() {
    for (int way = 0; way < 3; way++) {
      HeaviestLast x = withGoers(30, 9);
      for (int other = 0; other < 3; other++) if (other != way) wholeWay(x, other, STRENGTH, 29);
      due("the one way", x.several(0), way);
      due("over", x.several(-1), 1);
      due("safe by the one way", x.safe(0), way);
      x.mend(8 * way + 7, STRENGTH, 29);
      due("by none", x.several(-1), 0);
    }
  }

  @Edge(promise = 17, says = EACH_WAY)
  static void unsureByEachWay() {
    dueByWays((x, shelf, way) -> x.unsure(shelf, way, 0), 1, 0);
  }

  @Edge(promise = 18, says = EACH_WAY)
  static void boreByEachWay() {
    dueByWays((x, shelf, way) -> x.bore(shelf, way, 0), 1, 0);
  }

  @Edge(promise = 20, says = EACH_WAY)
  static void whoByEachWay() {
    dueByWays((x, shelf, way) -> {
      row(x, 1);
      return x.who(1, way, 0);
    }, 2, 1);
  }

  @Edge(promise = 21, says = EACH_WAY)
  static void judgeByEachWay() {
    dueByWays((x, shelf, way) -> {
      row(x, 1, 0, way, 1);
      return x.judge(1);
    }, NOT, 0);
  }

  @Edge(promise = 22, says = EACH_WAY)
  static void drawnByEachWay() {
    dueByWays((x, shelf, way) -> x.drawn(1, 10 + way, 0), 1, 0);
  }

  @Edge(promise = 23, says = EACH_WAY)
  static void goByEachWay() {
    for (int way = 0; way < 3; way++) {
      for (int place = 0; place < 8; place++) {
        HeaviestLast x = withGoers(30, 9);
        x.mend(8 * way + place, STRENGTH, 29);
        for (int by = 0; by < 3; by++) due("by way " + by, x.go(0, by), by == way ? 0 : 1);
        due("where it fell", x.led(4), 8 * way + place);
      }
    }
  }
}
