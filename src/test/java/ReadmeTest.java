import java.io.IOException;
import java.lang.reflect.Method;
import java.lang.reflect.Modifier;
import java.nio.file.Files;
import java.nio.file.Path;
import java.util.List;
import java.util.Set;
import java.util.TreeSet;
import java.util.regex.Matcher;
import java.util.regex.Pattern;
import java.util.stream.Stream;

/** README.md: every call that it shows is made, in its order, and must answer as it says. */
public final class ReadmeTest {
  private static final Path README = Path.of("README.md");
  private static final Pattern MADE = Pattern.compile("LineDispatch x = new LineDispatch\\(\\);");
  private static final Pattern FED = Pattern.compile("for \\(char c : \"([^\"]*)\"\\.toCharArray\\(\\)\\) x\\.feed\\(c\\);");
  private static final Pattern CALL = Pattern.compile("x\\.(\\w+)\\(([^)]*)\\); *// (-?\\d+)(:.*|)");

  private LineDispatch x;
  private final Set<String> shown = new TreeSet<>();
  private int passed, failed;

  private void check(boolean right, String what) {
    if (right) {
      passed++;
    } else {
      failed++;
      System.out.println("README.md: " + what);
    }
  }

  private static int number(String word) {
    boolean sign = word.length() == 3 && word.charAt(0) == '\'' && word.charAt(2) == '\'';
    return sign ? word.charAt(1) : Integer.parseInt(word);
  }

  private static int call(LineDispatch x, String name, String arguments) throws ReflectiveOperationException {
    String[] words = arguments.isEmpty() ? new String[0] : arguments.split(", *");
    Class<?>[] types = new Class<?>[words.length];
    Object[] numbers = new Object[words.length];
    for (int i = 0; i < words.length; i++) {
      types[i] = int.class;
      numbers[i] = number(words[i]);
    }
    return (int) LineDispatch.class.getMethod(name, types).invoke(x, numbers);
  }

  private void row(String row) throws ReflectiveOperationException {
    Matcher fed = FED.matcher(row);
    Matcher call = CALL.matcher(row);
    if (MADE.matcher(row).matches()) {
      x = new LineDispatch();
    } else if (fed.matches()) {
      for (char c : fed.group(1).toCharArray()) x.feed(c);
    } else if (call.matches()) {
      int got = call(x, call.group(1), call.group(2));
      shown.add(call.group(1));
      check(got == Integer.parseInt(call.group(3)), "'" + row + "' answered " + got);
    } else {
      check(row.isEmpty(), "'" + row + "' is no call with its answer");
    }
  }

  private void calls(List<String> page) throws ReflectiveOperationException {
    boolean within = false;
    for (String row : page) {
      if (row.startsWith("```")) within = row.equals("```java");
      else if (within) row(row);
    }
    for (Method m : LineDispatch.class.getDeclaredMethods()) {
      if (Modifier.isPublic(m.getModifiers())) check(shown.contains(m.getName()), "shows " + m.getName() + "()");
    }
  }

  private void tests(String page) throws IOException {
    check(page.contains("\n    .ci/run\n") && Files.isExecutable(Path.of(".ci/run")), "the command that runs the tests");
    try (Stream<Path> files = Files.list(Path.of("src/test/java"))) {
      for (Path file : files.toList()) check(page.contains(file.getFileName().toString()), "says what " + file + " is");
    }
  }

  public static void main(String[] args) throws Exception {
    ReadmeTest t = new ReadmeTest();
    t.calls(Files.readAllLines(README));
    t.tests(Files.readString(README));
    System.out.println("ReadmeTest: " + t.passed + " as it says, " + t.failed + " not");
    if (t.failed > 0) System.exit(1);
  }
}
