import java.io.StringWriter;
import java.lang.reflect.InvocationTargetException;
import java.lang.reflect.Method;
import java.net.URL;
import java.net.URLClassLoader;
import java.nio.file.Files;
import java.nio.file.Path;
import java.util.ArrayList;
import java.util.Arrays;
import java.util.Comparator;
import java.util.HashMap;
import java.util.List;
import java.util.Map;
import java.util.Random;
import java.util.Set;
import java.util.TreeSet;
import java.util.regex.Matcher;
import java.util.regex.Pattern;
import java.util.stream.Stream;
import javax.tools.JavaCompiler;
import javax.tools.ToolProvider;

/** What README.md tells of the class is what the class answers, and what it tells of the tests is there. */
public final class ReadmeTest {
  private static final Pattern EXAMPLE = Pattern.compile("(?:(int|long) (\\w+) = )?(pond\\.(\\w+)\\(.*\\)); *// ([-\\w.]+)(?:: .+)?");
  // a call in a loop has no one answer
  private static final Pattern LOOP = Pattern.compile("for \\(.*\\) pond\\.\\w+\\(.*\\);");
  private static final Pattern CALL_ROW = Pattern.compile("\\| `(\\w+\\([\\w, ]*\\))` \\| .+ \\|(.*)\\|");
  private static final Pattern WHAT_ROW = Pattern.compile("\\| (\\d+) \\| (a SQUARE|a GOER|number 0) \\| (.+) \\| (.*)\\| (.+) \\|");
  private static final Map<String, Long> CODES = Map.of("BAD", -1L, "NOT", -2L, "FULL", -3L, "STATE", -5L,
      "-11", -11L, "-12", -12L, "-13", -13L, "-14", -14L, "Long.MIN_VALUE", Long.MIN_VALUE);
  // ponds that calls are drawn on, and calls on each: with what makes it, within the 512
  private static final int PONDS = 400, CALLS = 330;
  private static int passed = 0;
  private static int failed = 0;

  /** Called by the examples, too, which another loader has: so it is public. */
  public static void is(String what, boolean so) {
    if (so) {
      passed++;
      return;
    }
    failed++;
    System.out.println("README.md: not so: " + what);
  }

  public static void due(int line, String call, long got, long told) {
    is("line " + line + ": " + call + " answers " + told + ", it answered " + got, got == told);
  }

  public static void main(String[] args) throws Exception {
    List<String> readme = Files.readAllLines(Path.of(args.length > 0 ? args[0] : "README.md"));
    examples(readme);
    whats(readme);
    calls(readme);
    constants(String.join("\n", readme));
    tests(String.join("\n", readme));
    System.out.println("ReadmeTest:");
    System.out.println(passed + " passed, " + failed + " failed");
    if (failed > 0) System.exit(1);
  }

  // ---- the examples

  private static void examples(List<String> readme) throws Exception {
    StringBuilder source = new StringBuilder("public final class ReadmeExamples {\n");
    Set<String> shown = new TreeSet<>();
    boolean inside = false;
    int blocks = 0;
    for (int i = 0; i < readme.size(); i++) {
      String row = readme.get(i);
      if (row.startsWith("```")) {
        if (inside) source.append("  }\n");
        inside = row.equals("```java");
        if (inside) source.append("  public static void block").append(blocks++).append("() {\n");
      } else if (inside) {
        source.append("    ").append(statement(i + 1, row, shown)).append('\n');
      }
    }
    source.append("}\n");
    is("it has examples", blocks > 0);
    for (Method m : face()) is("an example has " + m.getName() + "()", shown.contains(m.getName()));
    run(source.toString(), blocks);
  }

  /** A call with its told answer becomes one that looks at it; what is no call stays. */
  private static String statement(int line, String row, Set<String> shown) {
    Matcher example = EXAMPLE.matcher(row);
    if (!example.matches()) {
      is("line " + line + " tells an answer: " + row, !row.contains("pond.") || LOOP.matcher(row).matches());
      return row;
    }
    shown.add(example.group(4));
    String told = example.group(5);
    if (told.matches("[A-Z]+")) told = "HeaviestLast." + told;
    String call = example.group(3);
    String look = "ReadmeTest.due(" + line + ", \"" + call.replace("\"", "\\\"") + "\", ";
    if (example.group(1) == null) return look + call + ", " + told + ");";
    return example.group(1) + " " + example.group(2) + " = " + call + "; " + look + example.group(2) + ", " + told + ");";
  }

  private static void run(String source, int blocks) throws Exception {
    Path dir = Files.createTempDirectory("readme");
    try {
      Path file = Files.writeString(dir.resolve("ReadmeExamples.java"), source);
      JavaCompiler javac = ToolProvider.getSystemJavaCompiler();
      StringWriter told = new StringWriter();
      List<String> how = List.of("-d", dir.toString(), "-cp", System.getProperty("java.class.path"));
      try (var files = javac.getStandardFileManager(null, null, null)) {
        boolean compiled = javac.getTask(told, files, null, how, null, files.getJavaFileObjects(file)).call();
        is("its examples compile: " + told, compiled);
        if (!compiled) return;
      }
      try (URLClassLoader loader = new URLClassLoader(new URL[] {dir.toUri().toURL()}, ReadmeTest.class.getClassLoader())) {
        Class<?> examples = loader.loadClass("ReadmeExamples");
        for (int b = 0; b < blocks; b++) examples.getMethod("block" + b).invoke(null);
      }
    } catch (InvocationTargetException e) {
      is("its examples throw nothing: " + e.getCause(), false);
    } finally {
      try (Stream<Path> made = Files.walk(dir)) {
        for (Path p : made.sorted(Comparator.reverseOrder()).toList()) Files.delete(p);
      }
    }
  }

  // ---- the table of what mend() and of() tell

  private static void whats(List<String> readme) {
    List<Integer> whats = new ArrayList<>();
    for (String row : readme) {
      Matcher m = WHAT_ROW.matcher(row);
      if (!m.matches()) continue;
      int what = Integer.parseInt(m.group(1));
      whats.add(what);
      HeaviestLast pond = new HeaviestLast();
      for (int g = 0; g < 7; g++) pond.goer(40, 40);
      numbers(pond, what, m.group(2));
      boolean mended = !m.group(3).endsWith(", of() alone");
      if (m.group(5).matches("\\d+.*")) {
        is(row, pond.of(0, what) == Integer.parseInt(m.group(5).replaceAll("\\D.*", "")));
      }
      if (!mended) {
        for (int v = 0; v < 100; v++) is(row, pond.mend(0, what, v) == HeaviestLast.BAD);
        continue;
      }
      String[] bounds = m.group(4).trim().split(" \\.\\. ");
      int least = Integer.parseInt(bounds[0]);
      int most = Integer.parseInt(bounds[1]);
      is(row, pond.mend(0, what, least - 1) == HeaviestLast.BAD && pond.mend(0, what, most + 1) == HeaviestLast.BAD);
      is(row, pond.mend(0, what, least) >= 0 && pond.mend(0, what, most) == least && pond.of(0, what) == most);
    }
    is("it tells each what of of(): " + whats, whats.equals(List.of(0, 1, 2, 3, 4, 5, 6, 7, 8, 10, 11, 12)));
  }

  private static void numbers(HeaviestLast pond, int what, String of) {
    int many = of.equals("a SQUARE") ? 24 : of.equals("a GOER") ? 7 : 1;
    for (int n = -1; n <= 24; n++) {
      boolean there = n >= 0 && n < many;
      is("what " + what + " is of " + of + ", " + n, (pond.of(n, what) == HeaviestLast.BAD) != there);
    }
  }

  // ---- the table of calls

  private static List<Method> face() {
    List<Method> face = new ArrayList<>();
    for (Method m : HeaviestLast.class.getMethods()) if (m.getDeclaringClass() == HeaviestLast.class) face.add(m);
    face.sort(Comparator.comparing(Method::getName));
    return face;
  }

  private static void calls(List<String> readme) throws Exception {
    Map<String, Set<Long>> told = new HashMap<>();
    List<String> rows = new ArrayList<>();
    for (String row : readme) {
      Matcher m = CALL_ROW.matcher(row);
      if (!m.matches()) continue;
      rows.add(m.group(1));
      Set<Long> codes = new TreeSet<>();
      for (String code : m.group(2).trim().split(", ")) {
        if (code.isEmpty()) continue;
        is(row + " refuses with a number that there is: " + code, CODES.containsKey(code));
        codes.add(CODES.getOrDefault(code, 0L));
      }
      told.put(m.group(1).replaceAll("\\(.*", ""), codes);
    }
    is("it tells each call as the document's face does: " + rows, rows.equals(documented()));
    Map<String, Set<Long>> refused = new HashMap<>();
    for (int seed = 0; seed < PONDS; seed++) drawOn(new Random(seed), refused);
    for (Method m : face()) {
      // an act may give any int by itself
      if (m.getName().equals("act")) continue;
      Set<Long> codes = refused.getOrDefault(m.getName(), Set.of());
      is(m.getName() + "() refuses with " + told.get(m.getName()) + ", seen were " + codes, codes.equals(told.get(m.getName())));
    }
  }

  /** The calls of the document's face, with the names of what they take. */
  private static List<String> documented() throws Exception {
    List<String> calls = new ArrayList<>();
    Matcher m = Pattern.compile("public (?:int|long) (\\w+)\\((.*)\\);").matcher(Files.readString(Path.of("../shared/DOC.md")));
    while (m.find()) calls.add(m.group(1) + "(" + m.group(2).replaceAll("\\b(int|long) ", "") + ")");
    return calls;
  }

  /** Calls drawn on a pond, and with which numbers they refuse. */
  private static void drawOn(Random draw, Map<String, Set<Long>> refused) throws Exception {
    HeaviestLast pond = drawnPond(draw);
    List<Method> face = face();
    for (int n = 0; n < CALLS; n++) {
      Method m = face.get(draw.nextInt(face.size()));
      Object[] given = new Object[m.getParameterCount()];
      for (int i = 0; i < given.length; i++) {
        int v = draw.nextInt(8) == 0 ? draw.nextInt(1200) - 100 : draw.nextInt(9) - 2;
        given[i] = m.getParameterTypes()[i] == long.class ? (Object) (long) v : (Object) v;
      }
      long got = ((Number) m.invoke(pond, given)).longValue();
      boolean tells = m.getReturnType() == long.class ? got == Long.MIN_VALUE : CODES.containsValue(got);
      if (tells) refused.computeIfAbsent(m.getName(), name -> new TreeSet<>()).add(got);
    }
  }

  /** A pond with few or many goers and bodies, rows of all sorts, a long or a short tape, early or late. */
  private static HeaviestLast drawnPond(Random draw) {
    HeaviestLast pond = new HeaviestLast();
    for (int g = draw.nextInt(8); g > 0; g--) pond.goer(1 + draw.nextInt(40), draw.nextInt(20));
    if (draw.nextBoolean()) for (int b = 0; b < 50; b++) pond.body(draw.nextInt(8));
    if (draw.nextBoolean()) for (int f = 0; f < 120; f++) pond.feed('(');
    if (draw.nextBoolean()) for (int s = 0; s < 10; s++) pond.stay(999);
    for (int shelf = 0; shelf < 4; shelf++) {
      pond.row(shelf, draw.nextInt(3) == 0 ? draw.nextInt(5) : 0, draw.nextInt(8));
      for (int i = 0; i < 7; i++) pond.put(shelf, i, draw.nextInt(3));
    }
    return pond;
  }

  private static void constants(String readme) throws Exception {
    int told = 0;
    Matcher m = Pattern.compile("`([A-Z]+)` (?:is )?(-\\d+)").matcher(readme);
    for (; m.find(); told++) {
      is(m.group(), HeaviestLast.class.getField(m.group(1)).getInt(null) == Integer.parseInt(m.group(2)));
    }
    is("it tells each constant once", told == HeaviestLast.class.getFields().length);
  }

  // ---- the tests

  private static void tests(String readme) throws Exception {
    Set<String> named = new TreeSet<>();
    Matcher m = Pattern.compile("src/test/java/(\\w+Test\\.java)").matcher(readme);
    while (m.find()) named.add(m.group(1));
    try (Stream<Path> files = Files.list(Path.of("src/test/java"))) {
      Set<String> there = new TreeSet<>(files.map(p -> p.getFileName().toString()).filter(f -> f.endsWith("Test.java")).toList());
      is("the tests are " + there + ", named are " + named, named.equals(there));
    }
    for (String path : Arrays.asList("src/main/java/HeaviestLast.java", "../shared/DOC.md", "../shared/LANGUAGE.md",
        "../shared/tests", ".ci/run")) {
      is("it names " + path + ", and it is there", readme.contains("`" + path + "`") && Files.exists(Path.of(path)));
    }
  }
}
