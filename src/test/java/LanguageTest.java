import java.lang.reflect.Field;
import java.lang.reflect.Member;
import java.lang.reflect.Method;
import java.lang.reflect.Modifier;
import java.nio.file.Files;
import java.nio.file.Path;
import java.util.ArrayList;
import java.util.List;
import java.util.Set;
import java.util.TreeSet;
import java.util.regex.Matcher;
import java.util.regex.Pattern;

/** The face of the class, and those rules of LANGUAGE.md that can be seen from its members and its source. */
public final class LanguageTest {
  private static final String SOURCE = "src/main/java/LineDispatch.java";
  private static final String[] FACE = {
    "feed(I)", "end(I)", "text()", "fault()", "rule(I)", "place(II)", "train(II)", "why(I)", "who(I)", "order(I)",
    "reach(I)", "plan(II)", "best()", "let(I)", "tick(I)", "send(I)", "journal(II)", "add(III)", "drop(I)", "draw(II)",
    "keep(I)", "back(I)", "sheet(III)", "lay(III)", "read(IIII)", "torn()", "count(I)"
  };
  private static int failed = 0;

  private static void check(boolean right, String what) {
    if (!right) {
      failed++;
      System.out.println("not as told: " + what);
    }
  }

  private static String signature(Method m) {
    StringBuilder b = new StringBuilder(m.getName()).append('(');
    for (Class<?> c : m.getParameterTypes()) b.append(c == int.class ? "I" : "?");
    return b.append(m.getReturnType() == int.class ? ")" : ")?").toString();
  }

  private static void face() {
    Class<?> c = LineDispatch.class;
    check(Modifier.isFinal(c.getModifiers()) && Modifier.isPublic(c.getModifiers()), "the class is public and final");
    check(c.getDeclaredConstructors().length == 1 && c.getConstructors().length == 1, "one public constructor");
    Set<String> found = new TreeSet<>();
    Set<String> names = new TreeSet<>();
    for (Method m : c.getDeclaredMethods()) {
      if (!Modifier.isPrivate(m.getModifiers())) {
        check(Modifier.isPublic(m.getModifiers()) && !Modifier.isStatic(m.getModifiers()), "public: " + m);
        found.add(signature(m));
        names.add(m.getName());
      }
    }
    check(found.equals(new TreeSet<>(List.of(FACE))), "the methods of the face: " + found);
    Set<String> constants = new TreeSet<>();
    for (Field f : c.getDeclaredFields()) if (!Modifier.isPrivate(f.getModifiers())) constants.add(f.getName());
    check(constants.equals(new TreeSet<>(List.of("BAD", "STATE", "FULL", "NONE"))), "the constants: " + constants);
    List<Class<?>> all = new ArrayList<>(List.of(c.getDeclaredClasses()));
    for (Class<?> inner : all) {
      check(Modifier.isStatic(inner.getModifiers()) && !Modifier.isPublic(inner.getModifiers()), "static, not public: " + inner);
    }
    all.add(c);
    check(all.size() <= 12, "some twelve classes");
    for (Class<?> k : all) members(k, names);
  }

  private static void members(Class<?> c, Set<String> face) {
    int fields = 0;
    for (Field f : c.getDeclaredFields()) {
      if (Modifier.isStatic(f.getModifiers())) check(Modifier.isFinal(f.getModifiers()), "static is final: " + f);
      else fields++;
    }
    check(fields <= 20, "some twenty fields: " + c);
    for (Method m : c.getDeclaredMethods()) {
      check(m.getParameterCount() <= 7, "seven parameters: " + m);
      check(isPublicFace(c, m) || !face.contains(m.getName()), "no other method bears a name of the face: " + m);
    }
  }

  private static boolean isPublicFace(Class<?> c, Member m) {
    return c == LineDispatch.class && Modifier.isPublic(m.getModifiers());
  }

  private static void source() throws java.io.IOException {
    String text = Files.readString(Path.of(SOURCE));
    String code = text.replaceAll("(?s)/\\*.*?\\*/", "").replaceAll("//[^\n]*", "").replaceAll("\"[^\"\n]*\"", "\"\"");
    for (String word : new String[] {"throw", "throws", "try", "catch", "synchronized", "assert", "package", "protected", "var"}) {
      check(!Pattern.compile("\\b" + word + "\\b").matcher(code).find(), "no " + word);
    }
    check(!code.contains("->") && !code.contains("::"), "no lambda, no method reference");
    Matcher m = Pattern.compile("\\bimport ([^;]*);").matcher(code);
    while (m.find()) check(m.group(1).equals("java.util.Arrays"), "import " + m.group(1));
    Matcher call = Pattern.compile("\\b(System|Arrays|Math|Integer|Long)\\.(\\w+)").matcher(code);
    Set<String> allowed = Set.of("System.arraycopy", "Arrays.fill", "Math.max", "Math.min", "Math.abs");
    while (call.find()) check(allowed.contains(call.group()), "of the library: " + call.group());
    for (int i = 0; i < text.length(); i++) check(text.charAt(i) < 127, "signs of the source below 127");
    lengths(code);
  }

  private static void lengths(String code) {
    Matcher m = Pattern.compile("(?m)^( {4}| {8})(?=\\S)(?!private static final class)[\\w\\[\\] ]+\\([^)]*\\) \\{\n").matcher(code);
    while (m.find()) {
      int stop = code.indexOf("\n" + m.group(1) + "}\n", m.end() - 1);
      long lines = code.substring(m.start(), Math.max(m.start(), stop)).lines().count();
      check(lines <= 60, "a method of " + lines + " lines: " + m.group().trim());
    }
  }

  public static void main(String[] args) throws java.io.IOException {
    face();
    source();
    System.out.println("LanguageTest: " + (failed == 0 ? "as told" : failed + " not as told"));
    if (failed > 0) System.exit(1);
  }
}
