import java.lang.reflect.Field;
import java.lang.reflect.Method;
import java.lang.reflect.Modifier;
import java.nio.file.Files;
import java.nio.file.Path;
import java.util.ArrayList;
import java.util.Arrays;
import java.util.HashSet;
import java.util.List;
import java.util.Set;
import java.util.TreeSet;
import java.util.regex.Matcher;
import java.util.regex.Pattern;

/** The class's face is the document's, and its source keeps to what of LANGUAGE.md can be seen from outside. */
public final class FaceTest {
  private static final String[] FACE = {"int goer(int,int)", "int goers(int,int,int)", "int mend(int,int,int)",
      "int of(int,int)", "int feed(int)", "int law()", "int over(int,int,int)", "int bears(int,int,int)",
      "int all(int,int)", "int rule(int,int)", "int waits(int,int,int)", "int soonest(int,int)", "int strength(int,int)",
      "int load(int,int,int)", "int several(int)", "long unsure(int,int,int)", "long bore(int,int,int)", "int safe(int)",
      "int who(int,int,int)", "int judge(int)", "int drawn(int,int,int)", "int go(int,int)", "int stay(int)",
      "int led(int)", "int image()", "int back()", "int undo()", "int redo()", "int body(int)", "int act(int,int,int)",
      "int trace(int)", "int keep(int,int)", "int row(int,int,int)", "int put(int,int,long)", "long element(int,int)",
      "int shift(int,int,int,int,int)", "int taken(int,int)", "int count(int)"};
  private static int passed = 0;
  private static int failed = 0;

  private static void is(String what, boolean so) {
    if (so) {
      passed++;
      return;
    }
    failed++;
    System.out.println("not so: " + what);
  }

  public static void main(String[] args) throws Exception {
    face();
    inside();
    source(Files.readString(Path.of(args.length > 0 ? args[0] : "src/main/java/HeaviestLast.java")));
    System.out.println("FaceTest:");
    System.out.println(passed + " passed, " + failed + " failed");
    if (failed > 0) System.exit(1);
  }

  private static String told(Method m) {
    List<String> types = new ArrayList<>();
    for (Class<?> type : m.getParameterTypes()) types.add(type.getName());
    return m.getReturnType().getName() + " " + m.getName() + "(" + String.join(",", types) + ")";
  }

  private static void face() throws Exception {
    Class<?> c = HeaviestLast.class;
    is("public and final", Modifier.isPublic(c.getModifiers()) && Modifier.isFinal(c.getModifiers()));
    Set<String> methods = new TreeSet<>();
    for (Method m : c.getDeclaredMethods()) {
      if (Modifier.isPublic(m.getModifiers())) methods.add(told(m));
      else is(m + " is private", Modifier.isPrivate(m.getModifiers()));
    }
    is("the methods are " + methods, methods.equals(new TreeSet<>(Arrays.asList(FACE))));
    Set<String> constants = new TreeSet<>();
    for (Field f : c.getDeclaredFields()) {
      if (!Modifier.isPublic(f.getModifiers())) {
        is(f + " is private", Modifier.isPrivate(f.getModifiers()));
        continue;
      }
      is(f + " is a constant", Modifier.isStatic(f.getModifiers()) && Modifier.isFinal(f.getModifiers()));
      constants.add(f.getName() + "=" + f.getInt(null));
    }
    is("the constants are " + constants,
        constants.equals(new TreeSet<>(List.of("BAD=-1", "NOT=-2", "FULL=-3", "STATE=-5", "VOID=-2000000000"))));
    is("one public constructor", c.getDeclaredConstructors().length == 1 && c.getConstructors().length == 1
        && c.getConstructors()[0].getParameterCount() == 0);
  }

  private static void inside() {
    Class<?>[] classes = HeaviestLast.class.getDeclaredClasses();
    is("at most twelve classes", classes.length + 1 <= 12);
    Set<String> names = new HashSet<>();
    for (Method m : HeaviestLast.class.getMethods()) names.add(m.getName());
    List<Class<?>> all = new ArrayList<>(Arrays.asList(classes));
    all.add(HeaviestLast.class);
    for (Class<?> c : all) {
      if (c != HeaviestLast.class) is(c + " is static", Modifier.isStatic(c.getModifiers()));
      int fields = 0;
      for (Field f : c.getDeclaredFields()) {
        if (!Modifier.isStatic(f.getModifiers())) fields++;
        else is(f + " is final", Modifier.isFinal(f.getModifiers()));
      }
      is(c + " has at most twenty fields", fields <= 20);
      for (Method m : c.getDeclaredMethods()) {
        is(m + " takes at most seven", m.getParameterCount() <= 7);
        boolean own = c != HeaviestLast.class || Modifier.isPrivate(m.getModifiers());
        is(m + " has a name of its own", !own || !names.contains(m.getName()));
      }
    }
  }

  private static void source(String source) {
    String code = source.replaceAll("(?s)/\\*.*?\\*/", "").replaceAll("//[^\n]*", "").replaceAll("'(\\\\.|[^'\\\\])'", "' '");
    for (String word : new String[] {"throw", "throws", "try", "catch", "finally", "synchronized", "assert", "yield",
        "Object", "String", "System.out", "Math.random", "Random", "Thread", "package", "protected", "instanceof",
        "equals", "hashCode", "toString"}) {
      is("no " + word, !Pattern.compile("\\b" + Pattern.quote(word) + "\\b").matcher(code).find());
    }
    is("no lambda, no method reference", !code.contains("->") && !code.contains("::"));
    is("nothing exact", !code.contains("Exact"));
    is("signs from 1 to 127", source.chars().allMatch(c -> c >= 1 && c <= 127));
    Matcher imports = Pattern.compile("import ([\\w.*]+);").matcher(code);
    while (imports.find()) is("import " + imports.group(1), imports.group(1).equals("java.util.Arrays"));
    methods(code);
  }

  /** Methods stay short, and make nothing: only constructors do. */
  private static void methods(String code) {
    Pattern head = Pattern.compile("(?m)^ {4}(?: {4})?((?:public |private |static |final )*)([\\w\\[\\]]+ )?(\\w+)\\(([^)]*)\\) \\{$");
    Matcher m = head.matcher(code);
    int many = 0;
    while (m.find()) {
      many++;
      int depth = 1;
      int end = m.end();
      while (depth > 0) {
        char c = code.charAt(end++);
        depth += c == '{' ? 1 : c == '}' ? -1 : 0;
      }
      String body = code.substring(m.end(), end);
      is(m.group(3) + " is short", body.split("\n").length <= 60);
      boolean constructor = Character.isUpperCase(m.group(3).charAt(0));
      is(m.group(3) + " makes nothing", constructor || !Pattern.compile("\\bnew\\b").matcher(body).find());
    }
    is("methods were found", many > 100);
  }
}
