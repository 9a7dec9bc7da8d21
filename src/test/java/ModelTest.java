import java.util.Random;
import java.util.TreeMap;

/** Runs of calls by seeds on the program and on the model; every answer must be the same. */
public final class ModelTest {
  private static final int RUNS = 4000;
  private static final TreeMap<String, Integer> met = new TreeMap<>();

  private final Random random;
  private final LineDispatch x = new LineDispatch();
  private final Model m = new Model();
  private final StringBuilder log = new StringBuilder();
  private int calls;
  private boolean same = true;

  private ModelTest(long seed) {
    random = new Random(seed);
  }

  private int within(int low, int high) {
    return low + random.nextInt(high - low + 1);
  }

  /** Mostly within the bounds, at times one outside, rarely far off. */
  private int about(int low, int high) {
    int r = random.nextInt(60);
    if (r == 0) return low - 1;
    if (r == 1) return high + 1;
    if (r == 2) return random.nextBoolean() ? Integer.MAX_VALUE : Integer.MIN_VALUE;
    if (r == 3) return random.nextInt();
    return within(low, high);
  }

  private int someTrain() {
    return random.nextInt(6) == 0 ? about(0, 3) : about(0, Math.max(1, m.rule(1)) - 1);
  }

  private void due(String call, int got, int want) {
    calls++;
    log.append(call).append(" -> ").append(got).append('\n');
    String kind = call.substring(0, call.indexOf('('));
    if (want < 0) met.merge(kind + " " + (want <= -20 ? "-2x" : want <= -10 && kind.equals("text") ? "-1x" : want), 1, Integer::sum);
    else met.merge(kind, 1, Integer::sum);
    if (kind.equals("why") || kind.equals("fault") || kind.equals("torn")) met.merge(kind + " = " + want, 1, Integer::sum);
    if (got != want && same) {
      same = false;
      log.append("due is ").append(want).append('\n');
    }
  }

  private void feedAll(String text) {
    for (int i = 0; i < text.length() && calls < 500; i++) {
      int c = text.charAt(i);
      due("feed(" + c + ")", x.feed(c), m.feed(c));
    }
  }

  private String blanks(int least) {
    int n = least + (random.nextInt(12) == 0 ? random.nextInt(3) : 0);
    return " ".repeat(n);
  }

  private String number(int low, int high) {
    int v = random.nextInt(80) == 0 ? within(0, 120) : within(low, high);
    return (random.nextInt(40) == 0 ? "0" : "") + v;
  }

  /** One track almost everywhere and trains against each other: where who goes first matters. */
  private String makeTightText() {
    StringBuilder b = new StringBuilder();
    int places = within(4, 6), last = places - 1;
    for (int i = 0; i < places; i++) {
      boolean wide = i == 0 || i == last || random.nextInt(3) == 0;
      b.append("place ").append(within(2, 3)).append(wide ? " " + within(1, 3) : "").append(';');
      if (random.nextInt(3) == 0) b.append("section ").append(within(1, 9)).append(';');
    }
    for (int i = within(1, 3); i > 0; i--) {
      int start = random.nextInt(3) == 0 ? within(0, last) : random.nextBoolean() ? 0 : last;
      int goal = start > last / 2 ? within(0, start - 1) : within(start + 1, last);
      b.append("train ").append(start).append(' ').append(goal).append(' ').append(within(1, 2)).append(';');
    }
    return b.toString();
  }

  private String makeText() {
    StringBuilder b = new StringBuilder();
    int places = random.nextInt(25) == 0 ? within(0, 7) : within(2, 6);
    int trains = random.nextInt(25) == 0 ? 5 : random.nextBoolean() ? 0 : within(1, 4);
    int longest = random.nextBoolean() ? 6 : 20;
    int tracks = within(1, 3);
    for (int i = 0; i < places; i++) {
      b.append(blanks(0)).append("place").append(blanks(0)).append(number(1, longest));
      for (int k = random.nextInt(tracks); k > 0; k--) b.append(blanks(1)).append(number(1, longest));
      b.append(blanks(0)).append(";");
      for (int k = random.nextInt(4); k > 2; k--) b.append("section").append(blanks(0)).append(number(1, 9)).append(";");
    }
    for (int i = 0; i < trains; i++) {
      int from = random.nextInt(Math.max(1, places)), to = random.nextInt(Math.max(1, places));
      if (from == to && random.nextInt(20) != 0) to = from == 0 ? 1 : from - 1;
      b.append("train").append(blanks(0)).append(from).append(blanks(1)).append(to).append(blanks(1));
      b.append(number(1, Math.max(1, longest / 3))).append(blanks(0)).append(";");
    }
    if (b.length() > 0 && random.nextInt(12) == 0) {
      String signs = "; .a9pzZ\n/:{`<\u0000\u007f";
      b.setCharAt(random.nextInt(b.length()), signs.charAt(random.nextInt(signs.length())));
    }
    if (random.nextInt(15) == 0) b.setLength(random.nextInt(b.length() + 1));
    return b.toString();
  }

  private void tellText() {
    feedAll(random.nextInt(3) == 0 ? makeTightText() : makeText());
    if (random.nextInt(10) == 0) {
      int n = about(0, 10);
      due("end(" + n + ")", x.end(n), m.end(n));
    }
    due("text()", x.text(), m.text());
    due("fault()", x.fault(), m.fault());
  }

  private void lookAtAll() {
    for (int i = 0; i < 9; i++) due("rule(" + i + ")", x.rule(i), m.rule(i));
    for (int t = 0; t < m.rule(1); t++) {
      due("why(" + t + ")", x.why(t), m.why(t));
      due("who(" + t + ")", x.who(t), m.who(t));
      due("order(" + t + ")", x.order(t), m.order(t));
      for (int i = 3; i < 7; i++) due("train(" + t + ", " + i + ")", x.train(t, i), m.train(t, i));
    }
    for (int i = 0; i < 2; i++) due("reach(" + i + ")", x.reach(i), m.reach(i));
    for (int r = 0; r < 3; r++) for (int i = 0; i < 2; i++) due("plan(" + r + ", " + i + ")", x.plan(r, i), m.plan(r, i));
    due("best()", x.best(), m.best());
  }

  private void act() {
    switch (random.nextInt(10)) {
      case 0: case 1: case 2: { int t = someTrain(); due("let(" + t + ")", x.let(t), m.let(t)); break; }
      case 3: case 4: { int n = random.nextInt(4) == 0 ? about(1, 60) : within(1, 5); due("tick(" + n + ")", x.tick(n), m.tick(n)); break; }
      case 5: { int r = about(0, 2); due("send(" + r + ")", x.send(r), m.send(r)); break; }
      case 6: case 7: { int p = Math.max(1, m.rule(0)) - 1, a = about(0, p), b = about(0, p), c = about(1, random.nextBoolean() ? 3 : 8); due("add(" + a + ", " + b + ", " + c + ")", x.add(a, b, c), m.add(a, b, c)); break; }
      case 8: { int t = someTrain(); due("drop(" + t + ")", x.drop(t), m.drop(t)); break; }
      default: { int s = random.nextInt(), n = about(1, 8); due("draw(" + s + ", " + n + ")", x.draw(s, n), m.draw(s, n)); break; }
    }
  }

  private void ask() {
    switch (random.nextInt(10)) {
      case 0: { int w = about(0, 8); due("rule(" + w + ")", x.rule(w), m.rule(w)); break; }
      case 1: { int p = about(0, Math.max(1, m.rule(0)) - 1), w = about(0, 5); due("place(" + p + ", " + w + ")", x.place(p, w), m.place(p, w)); break; }
      case 2: { int t = someTrain(), w = about(0, 6); due("train(" + t + ", " + w + ")", x.train(t, w), m.train(t, w)); break; }
      case 3: { int t = someTrain(); due("why(" + t + ")", x.why(t), m.why(t)); break; }
      case 4: { int t = someTrain(); due("who(" + t + ")", x.who(t), m.who(t)); break; }
      case 5: { int i = about(0, 4); due("order(" + i + ")", x.order(i), m.order(i)); break; }
      case 6: { int w = about(0, 1); due("reach(" + w + ")", x.reach(w), m.reach(w)); break; }
      case 7: { int r = about(0, 2), w = about(0, 1); due("plan(" + r + ", " + w + ")", x.plan(r, w), m.plan(r, w)); break; }
      case 8: { int i = about(0, Math.max(1, m.rule(5)) - 1), w = about(0, 2); due("journal(" + i + ", " + w + ")", x.journal(i, w), m.journal(i, w)); break; }
      default: { int w = about(0, 5); due("count(" + w + ")", x.count(w), m.count(w)); break; }
    }
  }

  private void store() {
    switch (random.nextInt(8)) {
      case 0: { int k = about(0, 1); due("keep(" + k + ")", x.keep(k), m.keep(k)); break; }
      case 1: { int k = about(0, 1); due("back(" + k + ")", x.back(k), m.back(k)); break; }
      case 2: { int k = about(0, 3), l = about(0, 2), n = about(0, 40); due("sheet(" + k + ", " + l + ", " + n + ")", x.sheet(k, l, n), m.sheet(k, l, n)); break; }
      case 3: case 4: { int k = within(0, 3); for (int i = random.nextInt(12); i > 0; i--) laySome(k, i); break; }
      case 5: case 6: { int k = random.nextInt(3) == 0 ? about(0, 3) : within(0, 1), l = random.nextInt(3) == 0 ? about(0, 2) : laneOf(k), f = about(0, 12), n = random.nextInt(4) == 0 ? about(0, 10) : within(0, 3);
        due("read(" + k + ", " + l + ", " + f + ", " + n + ")", x.read(k, l, f, n), m.read(k, l, f, n)); break; }
      default: due("torn()", x.torn(), m.torn());
    }
  }

  private int laneOf(int k) {
    Object s = k < 0 || k > 3 ? null : m.sheets[k];
    return s instanceof byte[] ? 0 : s instanceof short[] ? 1 : 2;
  }

  private void laySome(int k, int i) {
    int cell = random.nextInt(30) == 0 ? about(0, 39) : i - 1;
    int v = i % 3 == 0 ? about(1, 4) : about(0, Math.max(1, m.rule(0)) - 1);
    if (random.nextInt(10) == 0) v += 256 * random.nextInt(300);
    due("lay(" + k + ", " + cell + ", " + v + ")", x.lay(k, cell, v), m.lay(k, cell, v));
  }

  private void prepareSheets() {
    for (int k = 0; k < 2; k++) {
      int lane = within(0, 2), n = within(3, 14), kk = k;
      due("sheet(" + k + ", " + lane + ", " + n + ")", x.sheet(kk, lane, n), m.sheet(kk, lane, n));
      for (int i = n; i > 0; i--) laySome(k, i);
    }
  }

  private boolean run() {
    int length = within(50, 460);
    boolean deep = random.nextInt(3) == 0;
    boolean told = random.nextInt(20) != 0;
    for (int i = 0; i < 3 && told && m.rule(0) == 0 && calls < 300; i++) tellText();
    length = Math.max(length, calls + 60);
    if (random.nextBoolean()) prepareSheets();
    while (same && calls < length) {
      int r = random.nextInt(100);
      if (r < 40) act();
      else if (r < 75) ask();
      else if (r < 90) store();
      else if (r < 93) { int c = about(0, 127); due("feed(" + c + ")", x.feed(c), m.feed(c)); }
      else if (r < 94) { int n = about(0, 160); due("end(" + n + ")", x.end(n), m.end(n)); }
      else if (r < 95 && calls < 300) { x.end(0); m.end(0); calls++; tellText(); }
      else if (deep && calls < 400) lookAtAll();
    }
    return same;
  }

  public static void main(String[] args) {
    int passed = 0, failed = 0;
    int runs = args.length > 0 ? Integer.parseInt(args[0]) : RUNS;
    for (int seed = 1; seed <= runs; seed++) {
      ModelTest t = new ModelTest(seed);
      if (t.run()) {
        passed++;
      } else if (failed++ < 3) {
        System.out.println("seed " + seed + ":\n" + t.log);
      }
    }
    if (args.length > 1) System.out.println(met);
    System.out.println("ModelTest, runs: " + passed + " as due, " + failed + " not");
    if (failed > 0) System.exit(1);
  }
}
