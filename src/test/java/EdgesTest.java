import java.lang.reflect.InvocationTargetException;
import java.lang.reflect.Method;
import java.nio.file.Files;
import java.nio.file.Path;
import java.util.ArrayList;
import java.util.Comparator;
import java.util.List;
import java.util.regex.Matcher;
import java.util.regex.Pattern;

/**
 * Each sentence of the document that names an edge has a test of its own: a method that bears it as an Edge. The
 * sentences are looked up in the document, and where it names an edge that no Edge quotes, that fails, too.
 */
public final class EdgesTest {
  private static final Class<?>[] EDGES = {SquareEdges.class, LawEdges.class, OrderEdges.class, LoadEdges.class,
      DeedEdges.class, ShelfEdges.class, WayEdges.class, RefusalEdges.class};
  private static final int PROMISES = 39;
  // words by which the document names an edge
  private static final Pattern NAMED = Pattern.compile("\\d \\.\\. \\d|at most|at least|at first|like ones|the least|upward"
      + "|\\bcut\\b|wrap|toward 0|\\bBAD\\b|\\bNOT\\b|\\bFULL\\b|\\bSTATE\\b|-1[1-4]\\b|MIN_VALUE|VOID|empty|\\bnone\\b|\\black"
      + "|\\belse\\b|missing|\\bends\\b|nothing|no such|not so|below|within|count;|count\\)|too early");

  private static String document;
  private static boolean[] quoted;

  public static void main(String[] args) throws Exception {
    document = Files.readString(Path.of("../shared/DOC.md")).replaceAll("\\s+", " ");
    quoted = new boolean[document.length()];
    int[] edges = new int[PROMISES + 1];
    int tests = 0;
    for (Method m : methods()) {
      Edge edge = m.getAnnotation(Edge.class);
      Edges.begin("promise " + edge.promise() + ", " + m.getName());
      look(edge);
      run(m);
      edges[edge.promise()]++;
      tests++;
    }
    Edges.begin("the document");
    for (int p = 1; p <= PROMISES; p++) if (edges[p] == 0) Edges.fail("promise " + p + " has no edge");
    lookForUnquoted();
    System.out.println("EdgesTest: " + tests + " sentences");
    System.out.println(Edges.passes() + " passed, " + Edges.failures() + " failed");
    if (Edges.failures() > 0) System.exit(1);
  }

  private static List<Method> methods() {
    List<Method> all = new ArrayList<>();
    for (Class<?> c : EDGES) {
      for (Method m : c.getDeclaredMethods()) if (m.isAnnotationPresent(Edge.class)) all.add(m);
    }
    all.sort(Comparator.comparingInt((Method m) -> m.getAnnotation(Edge.class).promise()).thenComparing(Method::getName));
    return all;
  }

  private static void run(Method m) throws IllegalAccessException {
    int before = Edges.passes() + Edges.failures();
    try {
      m.setAccessible(true);
      m.invoke(null);
    } catch (InvocationTargetException e) {
      Edges.fail("threw " + e.getCause());
    }
    if (Edges.passes() + Edges.failures() == before) Edges.fail("it looked at no answer");
  }

  /** A sentence stands under its promise's own head, or ahead of all promises. */
  private static void look(Edge edge) {
    int head = document.indexOf("## Promise " + edge.promise() + ":");
    int end = document.indexOf("## ", head + 3);
    int at = head < 0 ? -1 : document.indexOf(edge.says(), head);
    if (at < 0 || at > end) at = document.indexOf(edge.says());
    if (at < 0 || at >= document.indexOf("## Promise 1:") && (at < head || at > end)) {
      Edges.fail("the document does not say: " + edge.says());
      return;
    }
    for (int i = at; i < at + edge.says().length(); i++) quoted[i] = true;
  }

  private static void lookForUnquoted() {
    Matcher named = NAMED.matcher(document);
    named.region(document.indexOf("## Terms"), document.indexOf("## Not promised"));
    while (named.find()) {
      if (quoted[named.start()] && quoted[named.end() - 1]) continue;
      int from = Math.max(0, named.start() - 60);
      Edges.fail("no test for: .." + document.substring(from, Math.min(document.length(), named.end() + 40)) + "..");
    }
  }
}
