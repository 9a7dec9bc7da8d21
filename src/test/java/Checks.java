/** What the tests of the document's sentences share: answers that are due, told by the sentence they belong to. */
final class Checks {
  static final int BAD = -1, STATE = -2, FULL = -3, NONE = -4;
  static final int NULL = 1, INDEX = 2, CAST = 3, SIZE = 4;
  static final int MIN = Integer.MIN_VALUE, MAX = Integer.MAX_VALUE;

  private final String test;
  private String sentence = "";
  private int sentences, passed, failed;

  Checks(String test) {
    this.test = test;
  }

  /** The sentence of the document that the answers from here on belong to. */
  void sentence(String words) {
    sentence = words;
    sentences++;
  }

  void due(String what, int got, int want) {
    if (got == want) {
      passed++;
    } else {
      failed++;
      System.out.println("'" + sentence + "': " + what + " answered " + got + ", due is " + want);
    }
  }

  /** A call that must be refused for each of these numbers. */
  void bad(String what, java.util.function.IntUnaryOperator call, int... numbers) {
    for (int n : numbers) due(what + " of " + n, call.applyAsInt(n), BAD);
  }

  /** The answers of a call for 0, 1, 2 and on. */
  void row(String what, java.util.function.IntUnaryOperator call, int... wanted) {
    for (int i = 0; i < wanted.length; i++) due(what + " of " + i, call.applyAsInt(i), wanted[i]);
  }

  static void feedAll(LineDispatch x, String text) {
    for (int i = 0; i < text.length(); i++) x.feed(text.charAt(i));
  }

  static int tell(LineDispatch x, String text) {
    feedAll(x, text);
    return x.text();
  }

  LineDispatch told(String text) {
    LineDispatch x = new LineDispatch();
    int lines = tell(x, text);
    if (lines < 0) due("the text '" + text + "'", lines, 0);
    return x;
  }

  /** A text of which a new object must take so many lines. */
  LineDispatch taken(String text, int lines) {
    LineDispatch x = new LineDispatch();
    due("text() of '" + text + "'", tell(x, text), lines);
    due("fault() of '" + text + "'", x.fault(), 0);
    due("the tape behind '" + text + "'", x.count(2), 0);
    return x;
  }

  /** A text that must have this fault at this place; it leaves a new object as it is, but for the tape. */
  void faulty(String text, int fault, int at) {
    LineDispatch x = new LineDispatch();
    due("text() of '" + text + "'", tell(x, text), -10 - at);
    due("fault() of '" + text + "'", x.fault(), fault);
    due("the tape behind '" + text + "'", x.count(2), 0);
    due("places behind '" + text + "'", x.rule(0), 0);
    due("trains behind '" + text + "'", x.rule(1), 0);
  }

  static void lay(LineDispatch x, int k, int... cells) {
    for (int i = 0; i < cells.length; i++) x.lay(k, i, cells[i]);
  }

  void finish() {
    System.out.println(test + ", of " + sentences + " sentences: " + passed + " answers as due, " + failed + " not");
    if (failed > 0) System.exit(1);
  }
}
