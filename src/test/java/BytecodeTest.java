import java.io.PrintWriter;
import java.io.StringWriter;
import java.util.ArrayList;
import java.util.List;
import java.util.Map;
import java.util.Optional;
import java.util.Set;
import java.util.TreeMap;
import java.util.TreeSet;
import java.util.regex.Matcher;
import java.util.regex.Pattern;
import java.util.spi.ToolProvider;

/** Rules of LANGUAGE.md that the compiled class shows: what it calls, how deep, and where it makes objects. */
public final class BytecodeTest {
  private static final int DEEPEST = 8;
  private static final Set<String> LIBRARY = Set.of(
      "java/lang/Object.<init>", "java/lang/String.length", "java/lang/String.charAt", "java/lang/Math.max",
      "java/lang/Math.abs", "java/util/Arrays.fill", "java/lang/System.arraycopy");
  private static final Pattern METHOD = Pattern.compile("  (?! )(.*?)([\\w$.]+)\\((.*)\\);|  (static) \\{\\};");
  private static final Pattern INSTRUCTION = Pattern.compile(" +\\d+: (\\w+)(.*)");
  private static final Pattern TARGET = Pattern.compile(".*// (?:Interface)?Method (?:([\\w/$]+)\\.)?\"?([\\w<>]+)\"?:.*");
  private static final Pattern MAKES = Pattern.compile("new|newarray|anewarray|multianewarray");
  private static final Pattern NEVER = Pattern.compile("athrow|monitorenter|monitorexit|invokedynamic|checkcast|instanceof");

  private final Map<String, Set<String>> calls = new TreeMap<>();
  private int failed;

  private void check(boolean right, String what) {
    if (!right) {
      failed++;
      System.out.println("not as told: " + what);
    }
  }

  private static String listing(ToolProvider javap, Class<?> c) {
    StringWriter out = new StringWriter();
    PrintWriter writer = new PrintWriter(out);
    javap.run(writer, writer, "-p", "-c", "-cp", System.getProperty("java.class.path"), c.getName());
    return out.toString();
  }

  private void read(Class<?> c, String listing) {
    String own = c.getName();
    String method = null;
    for (String row : listing.lines().toList()) {
      Matcher m = METHOD.matcher(row);
      Matcher i = INSTRUCTION.matcher(row);
      if (m.matches()) {
        String name = m.group(4) != null ? "<clinit>" : m.group(2).equals(own) ? "<init>" : m.group(2);
        method = own + "." + name;
        calls.putIfAbsent(method, new TreeSet<>());
      } else if (i.matches() && method != null) {
        instruction(own, method, i.group(1), i.group(2));
      }
      check(!row.contains("Exception table"), "nothing is caught: " + method);
    }
  }

  private void instruction(String own, String method, String name, String rest) {
    check(!NEVER.matcher(name).matches(), name + " in " + method);
    boolean maker = method.endsWith("<init>") || method.endsWith("<clinit>");
    check(maker || !MAKES.matcher(name).matches(), "an object is made outside a constructor: " + method);
    Matcher target = TARGET.matcher(rest);
    if (!name.startsWith("invoke") || !target.matches()) {
      check(!name.startsWith("invoke"), "a call that is not known: " + rest);
      return;
    }
    String called = (target.group(1) == null ? own : target.group(1)) + "." + target.group(2);
    if (called.startsWith("LineDispatch")) calls.get(method).add(called);
    else check(LIBRARY.contains(called), method + " calls " + called);
  }

  /** The longest chain of calls that begins here. */
  private int depth(String method, List<String> open) {
    if (open.contains(method)) {
      check(false, "it calls itself: " + open);
      return 0;
    }
    open.add(method);
    int deepest = 0;
    check(calls.containsKey(method), "a method that is not known: " + method);
    for (String next : calls.getOrDefault(method, Set.of())) deepest = Math.max(deepest, depth(next, open));
    open.remove(open.size() - 1);
    return deepest + 1;
  }

  public static void main(String[] args) {
    Optional<ToolProvider> javap = ToolProvider.findFirst("javap");
    if (javap.isEmpty()) {
      System.out.println("BytecodeTest: this Java has no javap, nothing was looked at");
      return;
    }
    BytecodeTest t = new BytecodeTest();
    t.read(LineDispatch.class, listing(javap.get(), LineDispatch.class));
    for (Class<?> c : LineDispatch.class.getDeclaredClasses()) t.read(c, listing(javap.get(), c));
    t.check(t.calls.size() > 27, "methods were found: " + t.calls.size());
    int deepest = 0;
    for (String method : t.calls.keySet()) {
      int depth = t.depth(method, new ArrayList<>());
      t.check(depth <= DEEPEST, method + " goes " + depth + " deep");
      deepest = Math.max(deepest, depth);
    }
    System.out.println("BytecodeTest: " + t.calls.size() + " methods, " + deepest + " deep: " + (t.failed == 0 ? "as told" : t.failed + " not as told"));
    if (t.failed > 0) System.exit(1);
  }
}
