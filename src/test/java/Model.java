import java.util.ArrayDeque;
import java.util.ArrayList;
import java.util.Arrays;
import java.util.Deque;
import java.util.List;

/**
 * The document once more, told as slowly and plainly as can be (every order tried whole, every
 * pattern of thin squares walked), so that the class's short cuts can be held against it.
 */
final class Model {
  static final int BAD = -1, NOT = -2, FULL = -3, STATE = -5;

  static final class Square { int strength = 30, mends = 1, thin = 0, less = 10; }
  static final class Goer { int weight, lies = 0, takes, pace = 2; }

  /** The ice at a minute; thin says which squares bear less; level replaces every strength if not -1. */
  final class Moment {
    int[] weak = new int[24];
    int minute;
    boolean[] thin = new boolean[24];
    int level = -1;
    int fellAt = NOT;

    Moment copy() {
      Moment m = new Moment();
      m.weak = weak.clone();
      m.minute = minute;
      m.thin = thin.clone();
      m.level = level;
      return m;
    }

    int bearsOf(int q) {
      int b = level >= 0 ? level : squares[q].strength;
      if (thin[q]) b -= squares[q].less;
      b -= weak[q];
      if (minute > sunny) b -= minute - sunny;
      return b < 0 ? 0 : b;
    }

    void minutes(int n) {
      for (int k = 0; k < n; k++) {
        minute++;
        for (int q = 0; q < 24; q++) weak[q] = Math.max(0, weak[q] - squares[q].mends);
      }
    }

    boolean cross(int way, int g) { return cross(way, g, 0, false); }

    boolean cross(int way, int g, int part, boolean back) {
      Goer goer = goers.get(g);
      int w = goer.weight + part;
      if (goer.lies == 1) w = w / 2 + w % 2;
      boolean over = true;
      for (int k = 0; k < 8 && over; k++) {
        int place = back ? 7 - k : k;
        int q = 8 * way + place;
        int b = bearsOf(q);
        if (b >= w) {
          int t = goer.takes + part / 4;
          int by = goer.lies == 1 ? t / 2 : t;
          if (text != null) by = new Working(text, w, t, goer.pace, b, place, minute).result();
          by = by < 0 ? 0 : by > 99 ? 99 : by;
          weak[q] = Math.min(99, weak[q] + by);
        } else {
          weak[q] = 99;
          over = false;
          fellAt = q;
        }
      }
      minutes(goer.lies == 1 ? 2 * goer.pace : goer.pace);
      return over;
    }
  }

  /** Works a text out, straight from its bytes. */
  static final class Working {
    final String s;
    final int[] named;
    int at = 0;

    Working(String text, int w, int t, int p, int b, int place, int m) {
      s = text;
      named = new int[] {w, t, p, b, place, m};
    }

    int result() {
      while (true) {
        int first = or();
        boolean counts = true;
        int v = first;
        if (at < s.length() && s.charAt(at) == '?') {
          at++;
          v = or();
          counts = first != 0;
        }
        if (counts) return v;
        if (at >= s.length()) return 0;
        at++;
      }
    }

    boolean comes(String any) { return at < s.length() && any.indexOf(s.charAt(at)) >= 0; }

    int or() {
      int v = and();
      while (comes("|")) { at++; int o = and(); v = (v != 0) | (o != 0) ? 1 : 0; }
      return v;
    }

    int and() {
      int v = compare();
      while (comes("&")) { at++; int o = compare(); v = (v != 0) & (o != 0) ? 1 : 0; }
      return v;
    }

    int compare() {
      int v = sum();
      if (!comes("<=>")) return v;
      char c = s.charAt(at++);
      int o = sum();
      return (c == '<' ? v < o : c == '=' ? v == o : v > o) ? 1 : 0;
    }

    int sum() {
      int v = product();
      while (comes("+-")) { char c = s.charAt(at++); int o = product(); v = c == '+' ? v + o : v - o; }
      return v;
    }

    int product() {
      int v = operand();
      while (comes("*/%")) {
        char c = s.charAt(at++);
        int o = operand();
        v = c == '*' ? v * o : o == 0 ? 0 : c == '/' ? v / o : v % o;
      }
      return v;
    }

    int operand() {
      char c = s.charAt(at++);
      if (c == '!') return operand() == 0 ? 1 : 0;
      if (c == '-') return -operand();
      if (c == '(') { int v = or(); at++; return v; }
      int name = "wtpbsm".indexOf(c);
      if (name >= 0) return named[name];
      int v = c - '0';
      while (comes("0123456789")) v = v * 10 + s.charAt(at++) - '0';
      return v;
    }
  }

  /** The first byte with which no text goes on, byte by byte with what may come; -1: it is a text. */
  static int faultOf(String s) {
    Deque<int[]> opened = new ArrayDeque<>();
    boolean wants = true, compared = false, asked = false;
    int digits = 0, open = 0, signs = 0;
    for (int i = 0; i < s.length(); i++) {
      char c = s.charAt(i);
      boolean digit = c >= '0' && c <= '9';
      if (wants) {
        if (digit || "wtpbsm".indexOf(c) >= 0) {
          wants = false;
          digits = digit ? 1 : 9;
          open -= signs;
          signs = 0;
        } else if (c == '(' || c == '!' || c == '-') {
          if (open == 6) return i;
          open++;
          if (c == '(') {
            opened.push(new int[] {signs + 1, compared ? 1 : 0});
            signs = 0;
            compared = false;
          } else {
            signs++;
          }
        } else {
          return i;
        }
      } else if (digit) {
        if (digits >= 4) return i;
        digits++;
      } else if (c == ')') {
        if (opened.isEmpty()) return i;
        int[] was = opened.pop();
        open -= was[0];
        compared = was[1] == 1;
        digits = 9;
      } else if ("|&".indexOf(c) >= 0) {
        compared = false;
        wants = true;
      } else if ("<=>".indexOf(c) >= 0) {
        if (compared) return i;
        compared = true;
        wants = true;
      } else if ("+-*/%".indexOf(c) >= 0) {
        wants = true;
      } else if (c == '?' || c == ';') {
        if (!opened.isEmpty() || (c == '?' && asked)) return i;
        asked = c == '?';
        compared = false;
        wants = true;
      } else {
        return i;
      }
    }
    return wants || !opened.isEmpty() ? s.length() : -1;
  }

  final Square[] squares = new Square[24];
  final List<Goer> goers = new ArrayList<>();
  int sunny = 999;
  String tape = "";
  String text = null;
  Moment deed = new Moment();
  int[] led = {0, 0, 0, 0, NOT};
  Moment image = null;
  int[] imageLed = null;
  List<int[]> undos = new ArrayList<>();
  List<int[]> redos = new ArrayList<>();
  List<Integer> bodies = new ArrayList<>();
  List<Integer> trace = new ArrayList<>();
  /** null, an Integer (a body), or a Row. */
  Object[] shelves = new Object[6];

  static final class Row { int sort; long[] v; Row(int sort, int n) { this.sort = sort; v = new long[n]; } }

  Model() {
    for (int q = 0; q < 24; q++) squares[q] = new Square();
  }

  static boolean in(int v, int least, int most) { return v >= least && v <= most; }
  boolean isGoer(int g) { return in(g, 0, goers.size() - 1); }
  boolean isBytes(int shelf) { return shelves[shelf] instanceof Row r && r.sort == 0; }
  int refusal(int shelf) { return shelves[shelf] == null ? -11 : isBytes(shelf) ? 0 : -12; }
  long[] bytes(int shelf) { return ((Row) shelves[shelf]).v; }

  List<Integer> order(int shelf, int most) {
    List<Integer> list = new ArrayList<>();
    for (long v : bytes(shelf)) {
      if (list.size() == most || v < 0 || v >= goers.size()) break;
      list.add((int) v);
    }
    return list;
  }

  // ---- squares, goers

  int goer(int weight, int takes) {
    if (!in(weight, 1, 60) || !in(takes, 0, 60)) return BAD;
    if (goers.size() == 7) return FULL;
    Goer g = new Goer();
    g.weight = weight;
    g.takes = takes;
    goers.add(g);
    return goers.size() - 1;
  }

  int goers(int shelf, int i, int n) {
    if (!in(shelf, 0, 5) || !in(n, 1, 7)) return BAD;
    if (shelves[shelf] == null) return 0;
    if (!isBytes(shelf)) return -12;
    long[] v = bytes(shelf);
    for (int k = 0; k < n; k++) {
      long at = (long) i + 3 * k;
      if (at < 0 || at + 2 >= v.length) return k;
      int a = (int) at;
      if (!in((int) v[a + 2], 1, 9)) return k;
      int came = goer((int) v[a], (int) v[a + 1]);
      if (came < 0) return k;
      goers.get(came).pace = (int) v[a + 2];
    }
    return n;
  }

  boolean has(int number, int what) {
    if (!in(what, 0, 8)) return false;
    return what < 4 ? in(number, 0, 23) : what < 8 ? isGoer(number) : number == 0;
  }

  int number(int number, int what) {
    switch (what) {
      case 0: return squares[number].strength;
      case 1: return squares[number].mends;
      case 2: return squares[number].thin;
      case 3: return squares[number].less;
      case 4: return goers.get(number).weight;
      case 5: return goers.get(number).lies;
      case 6: return goers.get(number).takes;
      case 7: return goers.get(number).pace;
      default: return sunny;
    }
  }

  void become(int number, int what, int v) {
    switch (what) {
      case 0: squares[number].strength = v; break;
      case 1: squares[number].mends = v; break;
      case 2: squares[number].thin = v; break;
      case 3: squares[number].less = v; break;
      case 4: goers.get(number).weight = v; break;
      case 5: goers.get(number).lies = v; break;
      case 6: goers.get(number).takes = v; break;
      case 7: goers.get(number).pace = v; break;
      default: sunny = v;
    }
  }

  static final int[][] RANGE = {{0, 99}, {0, 9}, {0, 12}, {0, 99}, {1, 60}, {0, 1}, {0, 60}, {1, 9}, {0, 999}};

  int mend(int number, int what, int v) {
    if (!has(number, what) || !in(v, RANGE[what][0], RANGE[what][1])) return BAD;
    int was = number(number, what);
    if (was == v) return was;
    become(number, what, v);
    undos.add(new int[] {number, what, was, v});
    if (undos.size() > 40) undos.remove(0);
    redos.clear();
    return was;
  }

  int of(int number, int what) {
    if (has(number, what)) return number(number, what);
    if (what == 10 && in(number, 0, 23)) return deed.weak[number];
    if (what == 11 && in(number, 0, 23)) return deed.bearsOf(number);
    if (what == 12 && number == 0) return deed.minute;
    return BAD;
  }

  int feed(int letter) {
    if (!in(letter, 0, 255)) return BAD;
    if (tape.length() == 120) return FULL;
    tape += (char) letter;
    return tape.length();
  }

  int law() {
    int fault = faultOf(tape);
    if (fault < 0) text = tape;
    tape = "";
    return fault < 0 ? 1 : -100 - fault;
  }

  // ---- orders in thought

  /** over, the first fall's place, how many, and the moment behind it all. */
  int overIn(Moment m, int way, List<Integer> order) {
    int over = 0;
    for (int g : order) if (m.cross(way, g)) over++;
    return over;
  }

  int over(int shelf, int way, int what) {
    if (!in(shelf, 0, 5) || !in(way, 0, 2) || !in(what, 0, 2)) return BAD;
    if (refusal(shelf) != 0) return refusal(shelf);
    List<Integer> order = order(shelf, 10);
    Moment m = deed.copy();
    if (what == 0) return overIn(m, way, order);
    if (what == 2) {
      overIn(m, way, order);
      return m.minute - deed.minute;
    }
    for (int i = 0; i < order.size(); i++) if (!m.cross(way, order.get(i))) return i;
    return NOT;
  }

  int bears(int shelf, int way, int square) {
    if (!in(shelf, 0, 5) || !in(way, 0, 2) || !in(square, 0, 23)) return BAD;
    if (refusal(shelf) != 0) return refusal(shelf);
    Moment m = deed.copy();
    overIn(m, way, order(shelf, 10));
    return m.bearsOf(square);
  }

  /** All orders of 0 .. n - 1, the first by numbers first. */
  static List<List<Integer>> orders(int n) {
    List<List<Integer>> all = new ArrayList<>();
    all.add(new ArrayList<>());
    for (int k = 0; k < n; k++) {
      List<List<Integer>> longer = new ArrayList<>();
      for (List<Integer> a : all) {
        for (int g = 0; g < n; g++) {
          if (a.contains(g)) continue;
          List<Integer> b = new ArrayList<>(a);
          b.add(g);
          longer.add(b);
        }
      }
      all = longer;
    }
    return all;
  }

  int all(int way, int k) {
    if (!in(way, 0, 2) || k < -1) return BAD;
    int most = -1;
    List<Integer> best = null;
    for (List<Integer> order : orders(goers.size())) {
      int over = overIn(deed.copy(), way, order);
      if (over > most) {
        most = over;
        best = order;
      }
    }
    if (k == -1) return most;
    return k < best.size() ? best.get(k) : NOT;
  }

  int byRule(int way, int rule) {
    List<Integer> order = new ArrayList<>();
    for (int g = 0; g < goers.size(); g++) order.add(g);
    if (rule == 0) order.sort((a, b) -> goers.get(a).weight - goers.get(b).weight);
    if (rule == 1) order.sort((a, b) -> goers.get(b).weight - goers.get(a).weight);
    if (rule == 2) {
      order.sort((a, b) -> goers.get(b).weight - goers.get(b).takes - (goers.get(a).weight - goers.get(a).takes));
    }
    return overIn(deed.copy(), way, order);
  }

  int rule(int way, int rule) {
    if (!in(way, 0, 2) || !in(rule, 0, 4)) return BAD;
    if (rule < 4) return byRule(way, rule);
    int best = 3;
    for (int r = 3; r >= 0; r--) if (byRule(way, r) >= byRule(way, best)) best = r;
    return best;
  }

  /** Waits and crosses: how long it waited, or -1 if it went at once and fell. */
  int waitAndCross(Moment m, int way, int g) {
    for (int w = 0; w <= 60; w++) {
      Moment later = m.copy();
      later.minutes(w);
      if (!later.cross(way, g)) continue;
      m.weak = later.weak;
      m.minute = later.minute;
      return w;
    }
    m.cross(way, g);
    return -1;
  }

  int waits(int shelf, int way, int k) {
    if (!in(shelf, 0, 5) || !in(way, 0, 2) || k < -2) return BAD;
    if (refusal(shelf) != 0) return refusal(shelf);
    Moment m = deed.copy();
    List<Integer> waited = new ArrayList<>();
    int sum = 0;
    for (int g : order(shelf, 10)) {
      int w = Math.max(0, waitAndCross(m, way, g));
      waited.add(w);
      sum += w;
    }
    if (k == -2) return m.minute;
    if (k == -1) return sum;
    return k < waited.size() ? waited.get(k) : NOT;
  }

  int soonest(int way, int k) {
    if (!in(way, 0, 2) || k < -1) return BAD;
    if (goers.size() > 5) return STATE;
    List<Integer> best = null;
    int least = 0;
    for (List<Integer> order : orders(goers.size())) {
      Moment m = deed.copy();
      boolean all = true;
      for (int g : order) if (waitAndCross(m, way, g) < 0) all = false;
      if (all && (best == null || m.minute < least)) {
        best = order;
        least = m.minute;
      }
    }
    if (best == null) return NOT;
    if (k == -1) return least;
    return k < best.size() ? best.get(k) : NOT;
  }

  int strength(int shelf, int way) {
    if (!in(shelf, 0, 5) || !in(way, 0, 2)) return BAD;
    if (refusal(shelf) != 0) return refusal(shelf);
    List<Integer> order = order(shelf, 10);
    for (int s = 0; s <= 99; s++) {
      Moment m = deed.copy();
      m.weak = new int[24];
      m.level = s;
      if (overIn(m, way, order) == order.size()) return s;
    }
    return NOT;
  }

  // ---- loads, ways, unsure ice

  int load(int gw, int l, int n) {
    if (gw < 0 || !isGoer(gw / 10) || gw % 10 > 2 || !in(l, 1, 200) || !in(n, 0, 9)) return BAD;
    if (n > 0) return carried(gw / 10, gw % 10, l, n);
    for (int parts = 1; parts <= 9; parts++) if (carried(gw / 10, gw % 10, l, parts) == parts) return parts;
    return NOT;
  }

  int carried(int g, int way, int l, int n) {
    int part = l / n + (l % n > 0 ? 1 : 0);
    Moment m = deed.copy();
    for (int k = 0; k < n; k++) {
      if (!m.cross(way, g, part, false)) return k;
      if (k + 1 < n && !m.cross(way, g, 0, true)) return k + 1;
    }
    return n;
  }

  int several(int goer) {
    if (!in(goer, -1, goers.size() - 1)) return BAD;
    int n = goers.size();
    int partings = 1;
    for (int g = 0; g < n; g++) partings *= 3;
    int most = -1;
    int[] best = null;
    for (int p = 0; p < partings; p++) {
      int[] ways = new int[n];
      int rest = p;
      for (int g = n - 1; g >= 0; g--) {
        ways[g] = rest % 3;
        rest /= 3;
      }
      Moment m = deed.copy();
      int over = 0;
      for (int g = 0; g < n; g++) if (m.cross(ways[g], g)) over++;
      if (over > most) {
        most = over;
        best = ways;
      }
    }
    return goer == -1 ? most : best[goer];
  }

  /** How many of 12 to the 8th, over all 256 patterns; bored is sure not thin. */
  long likely(int way, List<Integer> order, int bored) {
    long sum = 0;
    for (int pattern = 0; pattern < 256; pattern++) {
      long weight = 1;
      Moment m = deed.copy();
      for (int place = 0; place < 8; place++) {
        int thin = place == bored ? 0 : squares[8 * way + place].thin;
        boolean is = (pattern >> place & 1) == 1;
        weight *= is ? thin : 12 - thin;
        m.thin[8 * way + place] = is;
      }
      if (weight > 0 && overIn(m, way, order) == order.size()) sum += weight;
    }
    return sum;
  }

  static long part(long above, int part) {
    long below = 429981696L;
    for (long d : new long[] {2, 3}) {
      while (above % d == 0 && below % d == 0) {
        above /= d;
        below /= d;
      }
    }
    return part == 0 ? above : below;
  }

  long unsure(int shelf, int way, int part) {
    if (!in(shelf, 0, 5) || !in(way, 0, 2) || !in(part, 0, 1) || !isBytes(shelf)) return Long.MIN_VALUE;
    return part(likely(way, order(shelf, 4), -1), part);
  }

  long bore(int shelf, int way, int part) {
    if (!in(shelf, 0, 5) || !in(way, 0, 2) || !in(part, 0, 2) || !isBytes(shelf)) return Long.MIN_VALUE;
    List<Integer> order = order(shelf, 4);
    int best = 0;
    long most = -1;
    for (int place = 0; place < 8; place++) {
      long v = likely(way, order, place);
      if (v > most) {
        most = v;
        best = place;
      }
    }
    return part == 2 ? 8 * way + best : part(most, part);
  }

  int safe(int goer) {
    if (!isGoer(goer)) return BAD;
    int best = 0;
    long most = -1;
    for (int way = 0; way < 3; way++) {
      long v = likely(way, List.of(goer), -1);
      if (v > most) {
        most = v;
        best = way;
      }
    }
    return best;
  }

  // ---- cracks, told crossings, draws

  int who(int shelf, int way, int what) {
    if (!in(shelf, 0, 5) || !in(way, 0, 2) || !in(what, 0, 2)) return BAD;
    if (refusal(shelf) != 0) return refusal(shelf);
    long[] cracks = bytes(shelf);
    List<Integer> sets = new ArrayList<>();
    for (int set = 0; set < 1 << goers.size(); set++) {
      Moment m = deed.copy();
      m.weak = new int[24];
      boolean so = true;
      for (int g = 0; g < goers.size(); g++) if ((set >> g & 1) == 1) so &= m.cross(way, g);
      for (int place = 0; place < 8 && place < cracks.length; place++) so &= m.weak[8 * way + place] == cracks[place];
      if (so) sets.add(set);
    }
    if (what == 0) return sets.size();
    if (sets.isEmpty()) return what == 1 ? NOT : 0;
    if (what == 1) return sets.get(0);
    int inAll = 127;
    for (int set : sets) inAll &= set;
    return inAll;
  }

  int judge(int shelf) {
    if (!in(shelf, 0, 5)) return BAD;
    if (refusal(shelf) != 0) return refusal(shelf);
    long[] v = bytes(shelf);
    Moment m = deed.copy();
    for (int t = 0; 3 * t < v.length; t++) {
      if (3 * t + 2 >= v.length) return t;
      long g = v[3 * t], way = v[3 * t + 1], so = v[3 * t + 2];
      if (!isGoer((int) g) || way < 0 || way > 2 || (so != 0 && so != 1)) return t;
      if (m.cross((int) way, (int) g) != (so == 1)) return t;
    }
    return NOT;
  }

  int drawn(int seed, int nw, int what) {
    if (!in(nw, 10, 202) || nw % 10 > 2 || !in(what, 0, 1)) return BAD;
    int z = seed, over = 0, whole = 0;
    for (int night = 0; night < nw / 10; night++) {
      Moment m = deed.copy();
      for (int place = 0; place < 8; place++) {
        int q = nw % 10 * 8 + place;
        z = z * 1103515245 + 12345;
        m.thin[q] = (z >>> 8) % 12 < squares[q].thin;
      }
      int got = 0;
      for (int g = 0; g < goers.size(); g++) if (m.cross(nw % 10, g)) got++;
      over += got;
      if (got == goers.size()) whole++;
    }
    return what == 0 ? over : whole;
  }

  // ---- in deed

  int go(int goer, int way) {
    if (!isGoer(goer) || !in(way, 0, 2)) return BAD;
    boolean over = deed.cross(way, goer);
    led[0]++;
    led[over ? 1 : 2]++;
    if (over) led[3] = Math.max(led[3], goers.get(goer).weight);
    else led[4] = deed.fellAt;
    return over ? 1 : 0;
  }

  int stay(int n) {
    if (!in(n, 1, 999)) return BAD;
    if (deed.minute + n > 9999) return STATE;
    deed.minutes(n);
    return deed.minute;
  }

  int led(int what) { return in(what, 0, 4) ? led[what] : BAD; }

  int image() {
    image = deed.copy();
    imageLed = led.clone();
    return deed.minute;
  }

  int back() {
    if (image == null) return STATE;
    deed = image.copy();
    led = imageLed.clone();
    return deed.minute;
  }

  int undo() {
    if (undos.isEmpty()) return STATE;
    int[] c = undos.remove(undos.size() - 1);
    redos.add(c);
    become(c[0], c[1], c[2]);
    return undos.size();
  }

  int redo() {
    if (redos.isEmpty()) return STATE;
    int[] c = redos.remove(redos.size() - 1);
    undos.add(c);
    become(c[0], c[1], c[3]);
    return redos.size();
  }

  // ---- acts, shelves: here the kinds are classes, as the document tells them

  interface Goes {
    int n();
    void ran(int body);
    default int goes(int x) { ran(1); return x + n(); }
  }

  interface Tells {
    void ran(int body);
    int bears(int x);
    int waits(int x);
    default int tells(int x) { ran(2); return bears(x) - waits(1); }
  }

  static class Order implements Goes, Tells {
    final int n;
    final List<Integer> trace;
    Order(int n, List<Integer> trace) { this.n = n; this.trace = trace; }
    public int n() { return n; }
    public void ran(int body) { trace.add(body); }
    public int bears(int x) { ran(10); return goes(x) * 2; }
    public int waits(int x) { ran(11); return x ^ n; }
  }

  static class Light extends Order {
    Light(int n, List<Integer> t) { super(n, t); }
    @Override public int goes(int x) { ran(20); return super.goes(x) + 3; }
  }

  static class Heavy extends Order {
    Heavy(int n, List<Integer> t) { super(n, t); }
    @Override public int bears(int x) { ran(30); return -super.bears(x); }
  }

  static class Wait extends Heavy {
    Wait(int n, List<Integer> t) { super(n, t); }
    @Override public int waits(int x) { ran(40); return super.waits(x) * 3; }
    @Override public int bears(int x) { ran(41); return super.bears(x + 1); }
  }

  static class Split extends Light {
    Split(int n, List<Integer> t) { super(n, t); }
    @Override public int waits(int x) { ran(50); return super.waits(x) - goes(2); }
  }

  static class Best extends Wait {
    Best(int n, List<Integer> t) { super(n, t); }
    @Override public int tells(int x) { ran(60); return super.tells(x) ^ 5; }
  }

  static class Told extends Order {
    Told(int n, List<Integer> t) { super(n, t); }
    @Override public int goes(int x) { ran(70); return super.goes(x) * 2; }
  }

  static class Cow extends Split {
    Cow(int n, List<Integer> t) { super(n, t); }
    @Override public int bears(int x) { ran(80); return super.bears(x) + waits(2); }
    @Override public int tells(int x) { ran(81); return super.tells(x) - 1; }
  }

  static Order made(int kind, int n, List<Integer> t) {
    switch (kind) {
      case 0: return new Order(n, t);
      case 1: return new Light(n, t);
      case 2: return new Heavy(n, t);
      case 3: return new Wait(n, t);
      case 4: return new Split(n, t);
      case 5: return new Best(n, t);
      case 6: return new Told(n, t);
      default: return new Cow(n, t);
    }
  }

  int body(int kind) {
    if (!in(kind, 0, 7)) return BAD;
    if (bodies.size() == 50) return FULL;
    bodies.add(kind);
    return bodies.size() - 1;
  }

  int act(int body, int act, int x) {
    trace.clear();
    if (!in(body, 0, bodies.size() - 1) || !in(act, 0, 3)) return 0;
    Order o = made(bodies.get(body), body, trace);
    return act == 0 ? o.goes(x) : act == 1 ? o.bears(x) : act == 2 ? o.waits(x) : o.tells(x);
  }

  int trace(int i) { return in(i, 0, Math.min(24, trace.size()) - 1) ? trace.get(i) : BAD; }

  int keep(int shelf, int body) {
    if (!in(shelf, 0, 5) || !in(body, -1, bodies.size() - 1)) return BAD;
    shelves[shelf] = body == -1 ? null : Integer.valueOf(body);
    return 1;
  }

  int row(int shelf, int sort, int n) {
    if (!in(shelf, 0, 5) || !in(sort, 0, 4) || n > 60) return BAD;
    if (n < 0) return -14;
    shelves[shelf] = new Row(sort, n);
    return 1;
  }

  int put(int shelf, int i, long v) {
    if (!in(shelf, 0, 5)) return BAD;
    if (shelves[shelf] == null) return -11;
    if (!(shelves[shelf] instanceof Row r)) return -12;
    if (!in(i, 0, r.v.length - 1)) return -13;
    r.v[i] = r.sort == 0 ? (byte) v : r.sort == 1 ? (short) v : r.sort == 2 ? (int) v
        : r.sort == 3 ? v : v == 0 ? 0 : 1;
    return 1;
  }

  long element(int shelf, int i) {
    if (!in(shelf, 0, 5) || !(shelves[shelf] instanceof Row r) || !in(i, 0, r.v.length - 1)) return Long.MIN_VALUE;
    return r.v[i];
  }

  int shift(int shelf, int i, int other, int j, int n) {
    if (!in(shelf, 0, 5) || !in(other, 0, 5)) return BAD;
    if (shelves[shelf] == null || shelves[other] == null) return -11;
    if (!(shelves[shelf] instanceof Row a) || !(shelves[other] instanceof Row b) || a.sort != b.sort) return -12;
    if (i < 0 || j < 0 || n < 0 || (long) i + n > a.v.length || (long) j + n > b.v.length) return -13;
    long[] span = Arrays.copyOfRange(a.v, i, i + n);
    for (int k = 0; k < n; k++) b.v[j + k] = span[k];
    return n;
  }

  int taken(int shelf, int k) {
    if (!in(shelf, 0, 5) || !in(k, 0, 7)) return BAD;
    if (shelves[shelf] == null) return -11;
    if (!(shelves[shelf] instanceof Integer body)) return -12;
    int kind = bodies.get(body);
    return made(k, 0, trace).getClass().isInstance(made(kind, 0, trace)) ? kind : -12;
  }

  int count(int what) {
    switch (what) {
      case 0: return goers.size();
      case 1: return (int) Arrays.stream(deed.weak).filter(v -> v > 0).count();
      case 2: return tape.length();
      case 3: return undos.size();
      case 4: return bodies.size();
      case 5: return trace.size();
      default: return BAD;
    }
  }
}
