import java.lang.reflect.InvocationTargetException;
import java.lang.reflect.Method;
import java.util.ArrayList;
import java.util.HashMap;
import java.util.List;
import java.util.Map;
import java.util.Random;
import java.util.TreeMap;

/** Long runs of drawn calls, each answer held against the Model's; a seed may be given to look elsewhere. */
public final class ModelTest {
  private static final int[] EDGES = {Integer.MIN_VALUE, Integer.MIN_VALUE + 1, -100, -3, -2, -1, 0, 1, 2, 3, 8, 9,
      10, 23, 24, 60, 61, 99, 100, 999, 1000, 9999, Integer.MAX_VALUE - 2, Integer.MAX_VALUE - 1, Integer.MAX_VALUE};
  private static final String SIGNS = "0123456789wtpbsm+-*/%<=>&|!()?;";
  private static final Map<String, Method> CLASS = new HashMap<>();
  private static final Map<String, Method> MODEL = new HashMap<>();
  private static final Map<String, Integer> CALLS = new TreeMap<>();

  private final Random draw;
  private HeaviestLast x;
  private Model model;
  private int calls;
  private final List<String> log = new ArrayList<>();
  private String wrong = null;

  private ModelTest(long seed) { draw = new Random(seed); }

  public static void main(String[] args) throws Exception {
    for (Method m : HeaviestLast.class.getDeclaredMethods()) CLASS.put(m.getName(), m);
    for (Method m : Model.class.getDeclaredMethods()) {
      Method same = CLASS.get(m.getName());
      if (same == null || m.getParameterCount() != same.getParameterCount()) continue;
      m.setAccessible(true);
      MODEL.put(m.getName(), m);
    }
    long from = args.length > 0 ? Long.parseLong(args[0]) : 1;
    int runs = args.length > 1 ? Integer.parseInt(args[1]) : 1500;
    int failed = 0;
    for (long seed = from; seed < from + runs && failed < 5; seed++) {
      ModelTest run = new ModelTest(seed);
      run.go();
      if (run.wrong == null) continue;
      failed++;
      System.out.println("seed " + seed + ": " + run.wrong);
      int first = Math.max(0, run.log.size() - 40);
      for (String row : run.log.subList(first, run.log.size())) System.out.println("    " + row);
    }
    System.out.println("ModelTest: " + runs + " runs, " + CALLS);
    System.out.println((failed == 0 ? 1 : 0) + " passed, " + failed + " failed");
    if (failed > 0) System.exit(1);
  }

  private void go() throws Exception {
    x = new HeaviestLast();
    model = new Model();
    calls = 0;
    setUp();
    int length = calls + 40 + draw.nextInt(200);
    while (calls < Math.min(length, 430) && wrong == null) step();
    for (int q = 0; q < 24 && wrong == null; q++) call("of", q, 10);
    for (int k = 0; k < 6 && wrong == null; k++) call("count", k);
    for (int k = 0; k < 5 && wrong == null; k++) call("led", k);
    for (int k = 0; k < 7 && wrong == null; k++) call("of", k, 4 + draw.nextInt(4));
    for (int q = 0; q < 24 && wrong == null; q++) call("of", q, draw.nextInt(4));
    call("of", 0, 12);
    call("of", 0, 8);
  }

  private static Object fitted(Class<?> type, long v) {
    if (type == long.class) return v;
    return (int) v;
  }

  private void call(String name, long... args) throws Exception {
    if (wrong != null) return;
    Method method = CLASS.get(name);
    Object[] given = new Object[args.length];
    for (int i = 0; i < args.length; i++) given[i] = fitted(method.getParameterTypes()[i], args[i]);
    calls++;
    CALLS.merge(name, 1, Integer::sum);
    long due = ((Number) MODEL.get(name).invoke(model, given)).longValue();
    String told = name + java.util.Arrays.toString(given);
    try {
      long got = ((Number) method.invoke(x, given)).longValue();
      log.add(told + " = " + got);
      if (got != due) wrong = told + " answered " + got + ", due is " + due;
    } catch (InvocationTargetException e) {
      wrong = told + " threw " + e.getCause();
    }
  }

  private int at(int least, int most) { return most <= least ? least : least + draw.nextInt(most - least + 1); }

  /** Mostly within, now and then at or over the edges. */
  private int about(int least, int most) {
    int k = draw.nextInt(20);
    if (k == 0) return EDGES[draw.nextInt(EDGES.length)];
    if (k == 1) return least - 1;
    if (k == 2) return most + 1;
    return at(least, most);
  }

  private void setUp() throws Exception {
    int many = draw.nextInt(4) == 0 ? at(0, 7) : at(1, 5);
    int heavy = at(5, 60);
    for (int g = 0; g < many; g++) {
      call("goer", at(1, heavy), at(0, draw.nextBoolean() ? 12 : 60));
      if (draw.nextInt(3) == 0) call("mend", g, 5, 1);
      if (draw.nextInt(2) == 0) call("mend", g, 7, at(1, 9));
    }
    int mended = draw.nextInt(3) == 0 ? 0 : at(1, 40);
    for (int k = 0; k < mended; k++) call("mend", at(0, 23), 0, at(10, 99));
    for (int k = at(0, 12); k > 0; k--) call("mend", at(0, 23), 1, at(0, 9));
    for (int k = at(0, 12); k > 0; k--) call("mend", at(0, 23), 2, at(0, 12));
    for (int k = at(0, 12); k > 0; k--) call("mend", at(0, 23), 3, at(0, 99));
    if (draw.nextInt(3) == 0) call("mend", 0, 8, at(0, 40));
    if (draw.nextInt(3) == 0) text();
    for (int shelf = 0; shelf < 3; shelf++) orderRow(shelf);
  }

  private void orderRow(int shelf) throws Exception {
    int n = draw.nextInt(8) == 0 ? at(0, 14) : at(0, 6);
    call("row", shelf, 0, n);
    for (int i = 0; i < n; i++) {
      int g = Math.max(0, model.goers.size() - 1);
      call("put", shelf, i, draw.nextInt(25) == 0 ? at(-3, 9) : at(0, g));
    }
  }

  /** Cracks as some goers leave them, so that who() has something to find. */
  private void crackRow(int shelf, int way) throws Exception {
    Model.Moment m = model.deed.copy();
    m.weak = new int[24];
    for (int g = 0; g < model.goers.size(); g++) if (draw.nextBoolean()) m.cross(way, g);
    int n = at(0, 9);
    call("row", shelf, 0, n);
    for (int i = 0; i < n; i++) call("put", shelf, i, i < 8 ? m.weak[8 * way + i] : at(0, 99));
    for (int k = 0; k < 3; k++) call("who", shelf, way, k);
  }

  /** Crossings told as they would go, but for the last now and then. */
  private void toldRow(int shelf) throws Exception {
    Model.Moment m = model.deed.copy();
    int threes = at(0, 6);
    if (model.goers.isEmpty()) threes = 0;
    int n = threes * 3 + (draw.nextInt(4) == 0 ? at(1, 2) : 0);
    call("row", shelf, 0, n);
    for (int t = 0; t < threes; t++) {
      int g = at(0, model.goers.size() - 1);
      int way = at(0, 2);
      int so = m.cross(way, g) ? 1 : 0;
      int lie = draw.nextInt(30);
      call("put", shelf, 3 * t, lie == 0 ? at(-2, 9) : g);
      call("put", shelf, 3 * t + 1, lie == 1 ? at(-2, 9) : way);
      call("put", shelf, 3 * t + 2, lie == 2 ? at(-2, 3) : so);
    }
    call("judge", shelf);
  }

  private void goerRow(int shelf) throws Exception {
    int n = at(0, 20);
    call("row", shelf, 0, n);
    for (int i = 0; i < n; i++) {
      int most = i % 3 == 2 ? 9 : 60;
      call("put", shelf, i, draw.nextInt(20) == 0 ? at(-2, 100) : at(1, most));
    }
    call("goers", about(0, 5) == shelf ? about(0, 5) : shelf, draw.nextInt(3) == 0 ? about(-3, n) : 0, about(1, 7));
  }

  private String expression(int depth) {
    int k = draw.nextInt(depth > 3 ? 2 : 9);
    if (k == 0) return String.valueOf(draw.nextInt(draw.nextBoolean() ? 12 : 10000));
    if (k == 1) return String.valueOf("wtpbsm".charAt(draw.nextInt(6)));
    if (k == 2) return "(" + expression(depth + 1) + ")";
    if (k == 3) return "!" + expression(depth + 1);
    if (k == 4) return "-" + expression(depth + 1);
    String sign = String.valueOf("+-*/%<=>&|".charAt(draw.nextInt(10)));
    return expression(depth + 1) + sign + expression(depth + 1);
  }

  private void text() throws Exception {
    StringBuilder text = new StringBuilder();
    for (int lines = at(1, 3); lines > 0; lines--) {
      text.append(expression(0));
      if (draw.nextBoolean()) text.append('?').append(expression(1));
      if (lines > 1) text.append(';');
    }
    int spoils = draw.nextInt(4) == 0 ? at(1, 2) : 0;
    for (int k = 0; k < spoils; k++) {
      char c = draw.nextInt(8) == 0 ? (char) at(0, 255) : SIGNS.charAt(draw.nextInt(SIGNS.length()));
      int place = at(0, text.length() - 1);
      if (draw.nextBoolean()) text.setCharAt(place, c);
      else text.insert(place, c);
    }
    if (draw.nextInt(10) == 0) text.setLength(at(0, text.length()));
    int most = draw.nextInt(20) == 0 ? 122 : 60;
    for (int i = 0; i < text.length() && i < most; i++) call("feed", text.charAt(i));
    call("law");
  }

  private void step() throws Exception {
    int way = about(0, 2);
    int shelf = draw.nextInt(3) > 0 ? at(0, 2) : about(0, 5);
    int most = model.goers.size() - 1;
    boolean dear = model.goers.size() > 5;
    switch (draw.nextInt(44)) {
      case 0: call("goer", about(1, 60), about(0, 60)); break;
      case 1: if (draw.nextInt(3) == 0) goerRow(at(3, 5)); else call("goers", about(0, 5), about(-3, 6), about(1, 7)); break;
      case 2: case 3: {
        int what = about(0, 8);
        int limit = Model.in(what, 0, 8) ? Model.RANGE[what][1] : 10;
        call("mend", what < 4 ? about(0, 23) : what < 8 ? about(0, Math.max(0, most)) : about(0, 0), what, about(0, limit));
        break;
      }
      case 4: call("of", about(0, 23), about(0, 12)); break;
      case 5: if (draw.nextInt(4) == 0) text(); else call("feed", about(0, 255)); break;
      case 6: if (draw.nextInt(4) == 0) call("law"); break;
      case 7: case 8: call("over", shelf, way, about(0, 2)); break;
      case 9: call("bears", shelf, way, about(0, 23)); break;
      case 10: if (!dear || draw.nextInt(40) == 0) call("all", way, about(-1, Math.max(0, most))); break;
      case 11: call("rule", way, about(0, 4)); break;
      case 12: case 13: call("waits", shelf, way, about(-2, 6)); break;
      case 14: if (draw.nextInt(3) == 0) call("soonest", way, about(-1, Math.max(0, most))); break;
      case 15: if (draw.nextInt(2) == 0) call("strength", shelf, way); break;
      case 16: case 17: call("load", 10 * about(0, Math.max(0, most)) + way, about(1, 200), about(0, 9)); break;
      case 18: if (!dear || draw.nextInt(10) == 0) call("several", about(-1, most)); break;
      case 19: call("unsure", shelf, way, 0); call("unsure", shelf, way, about(0, 1)); break;
      case 20: if (draw.nextInt(2) == 0) call("bore", shelf, way, about(0, 2)); break;
      case 21: call("safe", about(0, most)); break;
      case 22: call("who", shelf, way, about(0, 2)); break;
      case 23: crackRow(at(3, 5), at(0, 2)); break;
      case 24: toldRow(at(3, 5)); break;
      case 25: call("judge", shelf); break;
      case 26: call("drawn", draw.nextInt(), 10 * about(1, 20) + way, about(0, 1)); break;
      case 27: case 28: call("go", about(0, most), way); break;
      case 29: call("stay", draw.nextInt(3) == 0 ? about(1, 999) : at(1, 12)); break;
      case 30: call("led", about(0, 4)); break;
      case 31: if (draw.nextInt(3) == 0) call("image"); break;
      case 32: if (draw.nextInt(3) == 0) call("back"); break;
      case 33: call("undo"); break;
      case 34: call("redo"); break;
      case 35: call("body", about(0, 7)); break;
      case 36: acts(); break;
      case 37: call("keep", at(0, 5), about(-1, model.bodies.size() - 1)); break;
      case 38: call("row", draw.nextInt(3) == 0 ? about(0, 5) : at(3, 5), about(0, 4), about(0, 60)); break;
      case 39: call("put", shelf, about(0, 8), draw.nextInt(3) == 0 ? draw.nextLong() : at(0, 7)); break;
      case 40: call("element", shelf, about(0, 60)); break;
      case 41: call("shift", shelf, about(0, 6), about(0, 5), about(0, 6), about(0, 5)); break;
      case 42: call("taken", about(0, 5), about(0, 7)); break;
      default: if (draw.nextInt(5) == 0) orderRow(at(0, 2)); else call("count", about(0, 5)); break;
    }
  }

  private void acts() throws Exception {
    call("act", about(0, model.bodies.size() - 1), about(0, 3), draw.nextBoolean() ? draw.nextInt() : at(-9, 9));
    int ran = model.trace.size();
    for (int i = 0; i <= ran; i++) call("trace", i);
    call("count", 5);
  }
}
