/** For each promise of the document calls whose answers were worked out by hand. */
public final class PromisesTest {
  private static final int BAD = -1, STATE = -2, FULL = -3, NONE = -4;
  private static final int MIN = Integer.MIN_VALUE, MAX = Integer.MAX_VALUE;

  /** One track everywhere: two that run against each other pass nowhere between 0 and 3. */
  private static final String NARROW = "place 9;place 9;place 9;place 9;";
  private static final String OPPOSED = NARROW + "train 0 3 1;train 3 0 1;";
  /** Two by two they must meet at place 2: safe, but not one by one. */
  private static final String MEETING = "place 1;place 3;place 3 3;place 2;place 2;train 3 0 2;train 1 4 2;";
  private static final String TIMED = "place 9 4;section 2;place 3 9;section 5;place 9 9 1;";

  private static int promise = 0, passed = 0, failed = 0;

  private static void due(String what, int got, int want) {
    if (got == want) {
      passed++;
    } else {
      failed++;
      System.out.println("promise " + promise + ": " + what + " answered " + got + ", due is " + want);
    }
  }

  private static int tell(LineDispatch x, String text) {
    for (int i = 0; i < text.length(); i++) x.feed(text.charAt(i));
    return x.text();
  }

  private static LineDispatch told(String text) {
    LineDispatch x = new LineDispatch();
    int lines = tell(x, text);
    if (lines < 0) due("text of " + text, lines, 1);
    return x;
  }

  private static void faulty(String text, int fault, int at) {
    LineDispatch x = told("place 7;place 8;train 0 1 6;");
    x.let(0);
    x.keep(1);
    due("text of " + text, tell(x, text), -10 - at);
    due("fault of " + text, x.fault(), fault);
    due("places stay", x.rule(0), 2);
    due("lengths stay", x.place(1, 1), 8);
    due("trains stay", x.train(0, 4), 1);
    due("the journal stays", x.rule(5), 1);
    due("images stay", x.count(0), 1);
    due("the tape is empty", x.count(2), 0);
  }

  private static void newObject() {
    LineDispatch x = new LineDispatch();
    for (int what = 0; what < 9; what++) due("rule(" + what + ")", x.rule(what), what == 6 ? 1 : 0);
    due("place", x.place(0, 0), BAD);
    due("train", x.train(0, 0), BAD);
    due("fault", x.fault(), 0);
    due("torn", x.torn(), 0);
    due("count(0)", x.count(0), 0);
    due("count(1)", x.count(1), 0);
    due("count(2)", x.count(2), 0);
    due("count(3)", x.count(3), NONE);
    due("count(4)", x.count(4), 0);
    due("count(5)", x.count(5), 0);
    for (int k = 0; k < 4; k++) due("a sheet is nothing", x.lay(k, 0, 1), -11);
    for (int k = 0; k < 2; k++) due("no image", x.back(k), STATE);
    due("reach(0)", x.reach(0), 1);
    due("reach(1)", x.reach(1), 1);
    due("plan", x.plan(0, 0), 0);
    due("best", x.best(), NONE);
  }

  private static void feed() {
    LineDispatch x = new LineDispatch();
    due("0", x.feed(0), 1);
    due("127", x.feed(127), 2);
    for (int c : new int[] {-1, 128, MIN, MAX}) due("feed " + c, x.feed(c), BAD);
    for (int i = 3; i <= 160; i++) due("feed", x.feed(32), i);
    due("161", x.feed(32), FULL);
    due("BAD ahead of FULL", x.feed(128), BAD);
    due("still", x.count(2), 160);
  }

  private static void end() {
    LineDispatch x = new LineDispatch();
    due("empty", x.end(0), 0);
    due("above", x.end(1), BAD);
    for (int i = 0; i < 5; i++) x.feed(';');
    for (int n : new int[] {-1, 6, MIN, MAX}) due("end " + n, x.end(n), BAD);
    due("all kept", x.end(5), 5);
    due("two kept", x.end(2), 5);
    due("now two", x.count(2), 2);
    due("goes on", x.feed(';'), 3);
    due("none", x.end(0), 3);
    for (char c : "place 3;x".toCharArray()) x.feed(c);
    due("the last is cut", x.end(8), 9);
    due("the text is whole", x.text(), 1);
  }

  private static void text() {
    LineDispatch x = told(TIMED + "train 0 2 4;");
    due("six lines", tell(x, TIMED + "train 0 2 4;"), 6);
    due("no text", x.text(), 0);
    due("tells all: no place", x.rule(0), 0);
    due("and no train", x.rule(1), 0);
    due("blanks only", tell(x, "    "), 0);
    due("as few blanks as can be", tell(x, "place3 4;section2;place5;train0 1 2;"), 4);
    due("as many as wanted", tell(x, "  place  3  04 ;  section 2  ; place 5 ; train 00 01  2 ;  "), 4);
    due("second length", x.place(0, 2), 3);
    due("the latest section holds", tell(x, "place 3;section 2;section 9;place 3;section 4;"), 5);
    due("nine", x.place(0, 5), 9);
    due("trains ahead of places", tell(x, "train 0 1 3;place 3;place 4;"), 3);
    x.let(0);
    x.tick(1);
    x.keep(0);
    x.keep(1);
    x.sheet(0, 0, 5);
    due("another text", tell(x, "place 3;place 3;train 1 0 3;"), 3);
    due("clock", x.rule(2), 0);
    due("journal", x.rule(5), 0);
    due("images", x.count(0), 0);
    due("sheets stay", x.count(3), 5);
    due("its train", x.train(0, 4), 0);
    due("fits on the tape", tell(new LineDispatch(), " ".repeat(152) + "place 3;"), 1);
    due("six places", tell(x, "place 1;".repeat(6)), 6);
    due("four trains", tell(x, "place 1 1;place 1 1;" + "train 0 1 1;".repeat(2) + "train 1 0 1;".repeat(2)), 6);
    due("not told: 1", x.place(0, 5), 1);
  }

  private static void fault() {
    faulty(".", 1, 0);
    faulty("place 3;  A", 1, 10);
    faulty("place 3.5;", 1, 7);
    faulty("place 123;", 1, 6);
    faulty("place 003;", 1, 6);
    faulty("123", 1, 0);
    faulty("place 3\t;", 1, 7);
    faulty("place 1 2 3 400;", 1, 12);
    faulty("place 3;train 0 1 1#", 1, 19);
    faulty(";", 2, 0);
    faulty("  7", 2, 2);
    faulty("place", 2, 5);
    faulty("place 5   ", 2, 10);
    faulty("place 5 place", 2, 8);
    faulty("place ;", 2, 6);
    faulty("place 1 2 3 4;", 2, 12);
    faulty("place 1 2 3 99;", 2, 12);
    faulty("place 3;places 3;", 2, 8);
    faulty("plac 3;", 2, 0);
    faulty("zzzzz 3;", 2, 0);
    faulty("slace 3;", 2, 0);
    faulty("placeplace 3;", 2, 0);
    faulty("place 3;azbyz", 2, 8);
    faulty("place 3;section 3;{", 1, 18);
    faulty("place 3`", 1, 7);
    faulty("place 3/", 1, 7);
    faulty("place 3:", 1, 7);
    faulty("place 3;section ;", 2, 16);
    faulty("place 3;section 3 3;", 2, 18);
    faulty("place 3;train 0 1;", 2, 17);
    faulty("place 3;train 0 1 2 3;", 2, 20);
    faulty("place 3;train 0 1 2", 2, 19);
    faulty("place 0;", 3, 6);
    faulty("place 21;", 3, 6);
    faulty("place 1 2 0;", 3, 10);
    faulty("place 3;section 0;", 3, 16);
    faulty("place 3;section 10;", 3, 16);
    faulty("train 6 1 1;", 3, 6);
    faulty("train 1 6 1;", 3, 8);
    faulty("train 0 1 0;", 3, 10);
    faulty("train 0 1 21;", 3, 10);
    faulty("train 1 1 1;", 4, 8);
    faulty("train 1 01 77;", 4, 8);
    faulty("place 1;".repeat(6) + "place 0;", 5, 48);
    faulty("train 0 1 1;".repeat(4) + "  train;", 5, 50);
    faulty(" section 0;", 5, 1);
    faulty("place 1;train 0 1 1;", 6, 20);
    faulty("place 1;train 1 0 1;  ", 6, 22);
    faulty("train 0 1 1;", 6, 12);
    faulty("place 1;place 2;train 0 1 2;", 7, 28);
    faulty("place 4 2;place 2;train 0 1 3;train 0 1 3;", 7, 42);
    faulty(NARROW + "train 1 3 1;train 2 0 1;", 8, 56);
    faulty("place 5;place 3;place 5;train 0 2 4;", 8, 36);
    LineDispatch x = new LineDispatch();
    due("at first", x.fault(), 0);
    tell(x, ".");
    x.feed(32);
    due("till the next text", x.fault(), 1);
    due("right then", x.text(), 0);
    due("none any more", x.fault(), 0);
  }

  private static void rule() {
    LineDispatch x = told(TIMED + "train 0 2 4;train 2 0 4;train 0 1 3;");
    int[] first = {3, 3, 0, 0, 0, 0, 1, 5, 3};
    for (int i = 0; i < 9; i++) due("rule " + i, x.rule(i), first[i]);
    for (int i : new int[] {-1, 9, MIN, MAX}) due("rule " + i, x.rule(i), BAD);
    x.let(2);
    // train 0 waits for the section, train 2 is done in the posture but runs
    int[] then = {3, 3, 0, 1, 0, 1, 1, 4, 1};
    for (int i = 0; i < 9; i++) due("then rule " + i, x.rule(i), then[i]);
    x.tick(2);
    int[] last = {3, 3, 2, 0, 1, 1, 1, 4, 2};
    for (int i = 0; i < 9; i++) due("last rule " + i, x.rule(i), last[i]);
    due("not one by one", told(MEETING).rule(6), 0);
    due("both could go", told(MEETING).rule(8), 2);
  }

  private static void place() {
    LineDispatch x = told(TIMED + "section 7;train 0 2 4;train 0 1 4;");
    int[][] want = {{2, 9, 4, NONE, 2, 2}, {2, 9, 3, NONE, 0, 5}, {3, 9, 9, 1, 0, NONE}};
    for (int p = 0; p < 3; p++) for (int i = 0; i < 6; i++) due("place " + p + " " + i, x.place(p, i), want[p][i]);
    for (int p : new int[] {-1, 3, 6, MIN, MAX}) due("no place " + p, x.place(p, 0), BAD);
    for (int i : new int[] {-1, 6, MIN, MAX}) due("what " + i, x.place(0, i), BAD);
    x.let(0);
    due("left", x.place(0, 4), 1);
    due("runs into it", x.place(1, 4), 1);
    x.tick(2);
    x.let(1);
    due("runs to where it goes: not there", x.place(1, 4), 1);
    due("one track", told("place 3;").place(0, 2), NONE);
    due("the only place has no section", told("place 3;section 4;").place(0, 5), NONE);
  }

  private static void train() {
    LineDispatch x = told(TIMED + "train 2 0 4;train 0 1 2;");
    int[][] want = {{2, 0, 4, 2, 0, NONE, 7}, {0, 1, 2, 0, 0, NONE, 2}};
    for (int t = 0; t < 2; t++) for (int i = 0; i < 7; i++) due("train " + t + " " + i, x.train(t, i), want[t][i]);
    for (int t : new int[] {-1, 2, 4, MIN, MAX}) due("no train " + t, x.train(t, 0), BAD);
    for (int i : new int[] {-1, 7, MIN, MAX}) due("what " + i, x.train(0, i), BAD);
    x.tick(3);
    x.let(0);
    x.let(1);
    int[][] running = {{2, 0, 4, 1, 1, 8, 2}, {0, 1, 2, NONE, 1, 5, 0}};
    for (int t = 0; t < 2; t++) for (int i = 0; i < 7; i++) due("running " + t + " " + i, x.train(t, i), running[t][i]);
    x.tick(60);
    int[][] came = {{2, 0, 4, 1, 0, NONE, 2}, {0, 1, 2, NONE, 2, 5, 0}};
    for (int t = 0; t < 2; t++) for (int i = 0; i < 7; i++) due("came " + t + " " + i, x.train(t, i), came[t][i]);
  }

  private static void why() {
    LineDispatch x = told(OPPOSED);
    for (int t : new int[] {-1, 2, 4, MIN, MAX}) due("no train " + t, x.why(t), BAD);
    due("free", x.why(0), 0);
    due("free, too", x.why(1), 0);
    x.let(0);
    due("runs", x.why(0), 2);
    due("it would shut both in", x.why(1), 5);
    x.tick(1);
    x.let(0);
    due("place 2 is taken", x.why(1), 4);
    x.tick(1);
    x.let(0);
    due("runs to its end: it runs", x.why(0), 2);
    due("in the section", x.why(1), 3);
    x.tick(1);
    due("done", x.why(0), 1);
    due("free again", x.why(1), 0);
    due("to where it goes all fit", told("place 1;place 9;train 1 0 9;").why(0), 0);
  }

  private static void who() {
    LineDispatch x = told(OPPOSED);
    for (int t : new int[] {-1, 2, 4, MIN, MAX}) due("no train " + t, x.who(t), BAD);
    due("nothing against it", x.who(0), NONE);
    x.let(0);
    due("it runs", x.who(0), NONE);
    due("the first that could not end", x.who(1), 0);
    x.tick(1);
    x.let(0);
    due("who is there", x.who(1), 0);
    x.tick(1);
    x.let(0);
    due("who is in the section", x.who(1), 0);
    x.tick(1);
    due("done", x.who(0), NONE);
    LineDispatch y = told("place 9 9;place 9;place 9;place 9;train 0 1 1;train 0 3 1;train 3 0 1;");
    y.let(1);
    due("why", y.why(2), 5);
    due("train 0 could still end, train 1 not", y.who(2), 1);
    LineDispatch z = told("place 3;place 9 2;place 9;train 1 2 3;train 1 2 1;train 0 2 2;");
    due("no track for it now", z.why(2), 4);
    due("the first that is there", z.who(2), 0);
  }

  private static void order() {
    LineDispatch x = told(OPPOSED);
    for (int i : new int[] {-1, MIN}) due("order " + i, x.order(i), BAD);
    due("first", x.order(0), 0);
    due("second", x.order(1), 1);
    for (int i : new int[] {2, 4, 5, MAX}) due("order " + i, x.order(i), NONE);
    due("none can", told(MEETING).order(0), NONE);
    // train 0 must wait for 1, and comes ahead of 2 then
    LineDispatch y = told("place 1;place 1 1;place 1;place 1;train 1 3 1;train 2 3 1;train 1 0 1;");
    due("1 first", y.order(0), 1);
    due("then 0", y.order(1), 0);
    due("then 2", y.order(2), 2);
    y.let(1);
    due("who runs to its end is left out", y.order(0), 0);
    due("so there are two", y.order(2), NONE);
    // two that must meet and one that is free: plain only so far
    LineDispatch z = told(MEETING + "train 0 1 1;");
    due("the free one", z.order(0), 2);
    due("not plain behind it", z.order(1), NONE);
    due("so not plain", z.rule(6), 0);
  }

  private static void reach() {
    for (int what : new int[] {-1, 2, MIN, MAX}) due("reach " + what, told(OPPOSED).reach(what), BAD);
    LineDispatch x = told(MEETING);
    due("meeting", x.reach(0), 12);
    due("meeting, safe", x.reach(1), 12);
    LineDispatch y = told("place 1;place 2;place 3;place 2;train 3 0 1;train 1 3 2;");
    due("one is not safe", y.reach(0), 7);
    due("six are", y.reach(1), 6);
    y.let(1);
    due("behind a step", y.reach(0), 5);
    due("nothing but it is left", told("place 1;").reach(0), 1);
    LineDispatch z = told("place 1;place 1;train 0 1 1;");
    z.let(0);
    due("runs to its end: done", z.reach(0), 1);
  }

  private static void plan() {
    LineDispatch x = told("place 1;place 3 2;place 3;train 2 0 1;train 1 2 3;train 0 2 1;");
    int[][] want = {{4, 8}, {4, 7}, {4, 8}};
    for (int r = 0; r < 3; r++) for (int i = 0; i < 2; i++) due("plan " + r + " " + i, x.plan(r, i), want[r][i]);
    for (int r : new int[] {-1, 3, MIN, MAX}) due("rule " + r, x.plan(r, 0), BAD);
    for (int i : new int[] {-1, 2, MIN, MAX}) due("what " + i, x.plan(0, i), BAD);
    due("nothing changed", x.rule(5), 0);
    due("nor the clock", x.rule(2), 0);
    LineDispatch y = told("place 2 3;place 3;place 1;place 3;train 0 1 2;train 0 2 2;train 3 0 1;");
    int[][] other = {{5, 9}, {5, 9}, {4, 8}};
    for (int r = 0; r < 3; r++) for (int i = 0; i < 2; i++) due("other " + r + " " + i, y.plan(r, i), other[r][i]);
    // section 0 takes 5, section 1 takes 1: the long way first ends earlier
    LineDispatch z = told("place 9 9;section 5;place 9;place 9 9;train 0 2 4;train 0 1 4;");
    int[][] slow = {{10, 16}, {11, 16}, {10, 16}};
    for (int r = 0; r < 3; r++) for (int i = 0; i < 2; i++) due("slow " + r + " " + i, z.plan(r, i), slow[r][i]);
    z.tick(3);
    due("from the clock on", z.plan(0, 0), 13);
    due("all by three more", z.plan(0, 1), 22);
    z.let(1);
    z.tick(9);
    due("one is done at 8", z.plan(0, 1), 8 + 18);
    due("the other later", z.plan(0, 0), 18);
    LineDispatch d = told("place 9;place 9;train 0 1 1;");
    d.let(0);
    d.tick(7);
    due("all done", d.plan(2, 0), 1);
    due("all done, summed", d.plan(2, 1), 1);
    LineDispatch e = told("place 9;");
    due("no trains", e.plan(1, 0), 0);
    due("no trains, summed", e.plan(1, 1), 0);
  }

  private static void best() {
    due("none", told("place 9;place 9;").best(), NONE);
    due("1", told("place 1;place 3 2;place 3;train 2 0 1;train 1 2 3;train 0 2 1;").best(), 1);
    due("2", told("place 2 3;place 3;place 1;place 3;train 0 1 2;train 0 2 2;train 3 0 1;").best(), 2);
    due("of several the first", told("place 9 9;section 5;place 9;place 9 9;train 0 2 4;train 0 1 4;").best(), 0);
  }

  private static void let() {
    LineDispatch x = told(TIMED + "train 0 2 4;train 2 0 4;");
    for (int t : new int[] {-1, 2, 4, MIN, MAX}) due("no train " + t, x.let(t), BAD);
    x.tick(4);
    due("there at 6", x.let(0), 6);
    due("it runs", x.let(0), STATE);
    due("would not be held", x.let(1), STATE);
    due("refused: nothing in the journal", x.rule(5), 1);
    x.tick(2);
    due("there at 11", x.let(0), 11);
    due("the section is taken", x.let(1), STATE);
    x.tick(5);
    due("done", x.let(0), STATE);
    due("there at 16", x.let(1), 16);
    LineDispatch y = told(OPPOSED);
    due("y", y.let(0), 1);
    due("not safe", y.let(1), STATE);
    due("stays where it is", y.train(1, 3), 3);
  }

  private static void tick() {
    LineDispatch x = told(TIMED + "train 0 2 4;train 2 1 4;");
    for (int n : new int[] {0, -1, 61, MIN, MAX}) due("tick " + n, x.tick(n), BAD);
    due("none runs", x.tick(60), 0);
    due("clock", x.rule(2), 60);
    x.let(0);
    x.let(1);
    due("not yet", x.tick(1), 0);
    due("at its minute", x.tick(1), 1);
    due("the other", x.tick(3), 1);
    due("clock then", x.rule(2), 65);
    x.let(0);
    due("in one go", x.tick(60), 1);
    due("both are done", x.rule(4), 2);
  }

  private static void send() {
    String text = "place 9 9;section 5;place 9;place 9 9;train 0 2 4;train 0 1 4;train 2 0 4;";
    for (int r : new int[] {-1, 3, MIN, MAX}) due("rule " + r, told(text).send(r), BAD);
    LineDispatch x = told(text);
    due("by number", x.send(0), 1);
    due("train 0", x.train(0, 4), 1);
    due("none more", x.send(0), 0);
    LineDispatch y = told(text);
    due("the fewest", y.send(1), 2);
    due("train 1", y.train(1, 4), 1);
    due("and 2 behind it", y.train(2, 4), 1);
    LineDispatch z = told("place 9 9;section 5;place 9;place 9 9;train 0 1 4;train 0 2 4;");
    due("the most", z.send(2), 1);
    due("train 1 of z", z.train(1, 4), 1);
    due("without trains", told("place 9;").send(0), 0);
  }

  private static void journal() {
    LineDispatch x = told("place 9 9;section 5;place 9;place 9 9;train 0 2 4;train 0 1 4;train 2 1 4;");
    x.tick(2);
    x.let(2);
    x.let(1);
    int[][] want = {{2, 1, 0}, {2, 2, 2}};
    for (int i = 0; i < 2; i++) for (int w = 0; w < 3; w++) due("entry " + i + " " + w, x.journal(i, w), want[i][w]);
    x.tick(5);
    x.let(0);
    x.tick(5);
    x.let(0);
    int[][] then = {{2, 1, 0}, {2, 2, 2}, {7, 0, 0}, {12, 0, 1}};
    for (int i = 0; i < 4; i++) for (int w = 0; w < 3; w++) due("then " + i + " " + w, x.journal(i, w), then[i][w]);
    for (int i : new int[] {4, 60, MAX}) due("not so many " + i, x.journal(i, 0), NONE);
    for (int i : new int[] {-1, MIN}) due("below 0", x.journal(i, 0), BAD);
    for (int w : new int[] {-1, 3, MIN, MAX}) due("what " + w, x.journal(0, w), BAD);
    due("BAD ahead of NONE", x.journal(9, 3), BAD);
  }

  private static void add() {
    LineDispatch x = told(TIMED);
    int[][] bad = {{-1, 1, 1}, {3, 1, 1}, {0, -1, 1}, {0, 3, 1}, {1, 1, 1}, {0, 1, 0}, {0, 1, 21}, {MIN, MAX, MIN}};
    for (int[] b : bad) due("add " + b[0] + " " + b[1] + " " + b[2], x.add(b[0], b[1], b[2]), BAD);
    due("too long for its place", x.add(0, 2, 10), STATE);
    due("one", x.add(0, 2, 4), 1);
    due("two", x.add(0, 2, 9), 2);
    due("no track left", x.add(0, 1, 1), STATE);
    due("three", x.add(2, 0, 1), 3);
    x.tick(9);
    x.let(0);
    due("who runs into it needs room", x.add(1, 0, 9), STATE);
    due("a shorter one fits", x.add(1, 2, 3), 4);
    due("at its place", x.train(3, 4), 0);
    due("its minutes", x.train(3, 6), 5);
    due("full ahead of STATE", x.add(0, 2, 20), FULL);
    due("BAD ahead of FULL", x.add(0, 0, 1), BAD);
    LineDispatch y = told(NARROW + "train 1 3 1;");
    due("too long for its way: not safe", told("place 9;place 3;place 9;").add(0, 2, 5), STATE);
    due("not safe", y.add(2, 0, 1), STATE);
    due("nothing came", y.rule(1), 1);
    due("the one that is there goes on", y.why(0), 0);
    due("where it is safe", y.add(3, 0, 1), 2);
  }

  private static void drop() {
    LineDispatch x = told("place 9 9;section 5;place 9;place 9 9;train 0 2 4;train 0 1 5;train 2 1 6;");
    for (int t : new int[] {-1, 3, 4, MIN, MAX}) due("no train " + t, x.drop(t), BAD);
    x.let(1);
    x.let(2);
    due("it runs", x.drop(1), STATE);
    x.tick(5);
    x.let(0);
    due("done goes", x.drop(1), 2);
    due("numbered less", x.train(1, 2), 6);
    due("and it is done", x.train(1, 4), 2);
    due("gone from the journal", x.rule(5), 2);
    due("renumbered", x.journal(0, 1), 1);
    due("its minute", x.journal(0, 0), 0);
    due("its place", x.journal(0, 2), 2);
    due("as it was", x.journal(1, 1), 0);
    due("still runs", x.drop(0), STATE);
    x.tick(5);
    due("at a place", x.drop(0), 1);
    due("only the other's", x.rule(5), 1);
    due("is now 0", x.journal(0, 1), 0);
    due("the last", x.drop(0), 0);
    due("empty", x.rule(5), 0);
    LineDispatch y = told("place 9;place 9;place 9;train 1 2 1;train 0 2 1;");
    due("its place is taken", y.why(1), 4);
    y.drop(0);
    due("what stood against it is gone", y.why(0), 0);
  }

  private static void draw() {
    LineDispatch x = new LineDispatch();
    due("no places", x.draw(1, 1), STATE);
    for (int n : new int[] {0, -1, 9, MIN, MAX}) due("BAD ahead of STATE " + n, x.draw(1, n), BAD);
    due("one place: to is from", told("place 9;").draw(1, 8), 0);
    tell(x, "place 20 20 20;".repeat(5));
    // 1 becomes 1103527590: 16838 of 5 places: from 3, to 2104 % 5 = 4, length 263 % 6 + 1 = 6
    due("one", x.draw(1, 1), 1);
    int[] want = {3, 4, 6, 3};
    for (int i = 0; i < 4; i++) due("drawn " + i, x.train(0, i), want[i]);
    // -1 becomes -1103502900: the bits are taken as they are
    int got = (-1103502900 >>> 16) & 32767;
    due("negative", x.draw(-1, 1), got % 5 == got / 8 % 5 ? 0 : 1);
    if (x.rule(1) == 2) due("its from", x.train(1, 0), got % 5);
    int before = x.rule(1);
    due("till it is full", x.draw(12345, 8) + before, x.rule(1));
    while (x.rule(1) < 4) x.draw(x.rule(1) * 77, 8);
    due("full", x.draw(5, 8), 0);
  }

  private static void keep() {
    LineDispatch x = told(OPPOSED);
    for (int k : new int[] {-1, 2, MIN, MAX}) due("image " + k, x.keep(k), BAD);
    due("first", x.keep(0), 0);
    due("again", x.keep(0), 1);
    due("the other", x.keep(1), 0);
    due("two", x.count(0), 2);
    tell(x, "place 9;");
    due("gone by a text", x.keep(0), 0);
    due("nothing can be kept, too", new LineDispatch().keep(1), 0);
  }

  private static void back() {
    LineDispatch x = told(TIMED + "train 0 2 4;train 2 0 4;");
    for (int k : new int[] {-1, 2, MIN, MAX}) due("image " + k, x.back(k), BAD);
    due("none", x.back(0), STATE);
    x.tick(3);
    x.let(0);
    x.keep(0);
    x.tick(60);
    x.let(0);
    x.add(0, 1, 1);
    x.keep(1);
    due("back", x.back(0), 2);
    due("clock", x.rule(2), 3);
    due("runs", x.train(0, 5), 5);
    due("journal", x.rule(5), 1);
    due("what stands against it", x.why(1), 4);
    due("forth", x.back(1), 3);
    due("clock then", x.rule(2), 63);
    due("journal then", x.journal(1, 0), 63);
    x.drop(2);
    due("images are kept as they were", x.back(1), 3);
    due("none is lost", x.count(0), 2);
    LineDispatch y = new LineDispatch();
    y.keep(0);
    due("of nothing", y.back(0), 0);
  }

  private static void sheet() {
    LineDispatch x = new LineDispatch();
    for (int k : new int[] {-1, 4, MIN, MAX}) due("sheet " + k, x.sheet(k, 0, 1), BAD);
    for (int l : new int[] {-1, 3, MIN, MAX}) due("lane " + l, x.sheet(0, l, 1), BAD);
    for (int n : new int[] {41, MAX}) due("size " + n, x.sheet(0, 0, n), BAD);
    for (int n : new int[] {-1, MIN}) due("size " + n, x.sheet(0, 0, n), -14);
    due("BAD ahead of SIZE", x.sheet(4, 0, -1), BAD);
    due("BAD ahead of SIZE, lane", x.sheet(0, 3, -1), BAD);
    due("still nothing", x.count(3), NONE);
    due("none", x.sheet(0, 2, 0), 1);
    due("of none", x.count(3), 0);
    due("forty", x.sheet(0, 2, 40), 1);
    due("the last", x.lay(0, 39, 1), 1);
    due("refused", x.sheet(0, 0, -1), -14);
    due("as before", x.count(3), 40);
    tell(x, "place 9;place 9;");
    x.lay(0, 1, 1);
    x.lay(0, 2, 5);
    x.sheet(0, 2, 3);
    due("new cells are 0", x.read(0, 2, 0, 1), -20);
  }

  private static void lay() {
    LineDispatch x = told("place 20;place 20;");
    for (int k : new int[] {-1, 4, MIN, MAX}) due("sheet " + k, x.lay(k, 0, 1), BAD);
    due("nothing", x.lay(3, 0, 1), -11);
    due("NULL ahead of INDEX", x.lay(3, -1, 1), -11);
    for (int lane = 0; lane < 3; lane++) {
      due("lane " + lane, x.sheet(3, lane, 3), 1);
      for (int i : new int[] {-1, 3, MIN, MAX}) due("cell " + i, x.lay(3, i, 1), -12);
      x.lay(3, 0, 1);
      x.lay(3, 1, 0);
      due("256 more", x.lay(3, 2, 256 + 7), 1);
      due("as a byte it is 7", x.read(3, lane, 0, 1), lane == 0 ? 1 : -20);
      x.lay(3, 2, 65536 * 3 + 8);
      if (lane == 1) due("as a short it is 8", x.read(3, 1, 0, 1), 1);
      if (lane == 2) due("as an int it is not", x.read(3, 2, 0, 1), -20);
      if (lane < 2) due("its length", x.train(0, 2), lane == 0 ? 7 : 8);
      x.drop(0);
      x.lay(3, 2, 255);
      if (lane == 0) due("255 is -1", x.read(3, 0, 0, 1), -20);
    }
  }

  private static void row(LineDispatch x, int k, int... cells) {
    for (int i = 0; i < cells.length; i++) x.lay(k, i, cells[i]);
  }

  private static void read() {
    LineDispatch x = told("place 9 9;place 9 9;place 9 9;");
    for (int k : new int[] {-1, 4, MIN, MAX}) due("sheet " + k, x.read(k, 0, 0, 1), BAD);
    for (int l : new int[] {-1, 3, MIN, MAX}) due("lane " + l, x.read(0, l, 0, 1), BAD);
    for (int n : new int[] {-1, 11, MIN, MAX}) due("times " + n, x.read(0, 0, 0, n), BAD);
    due("of 0 nothing is read", x.read(0, 0, -7, 0), 0);
    due("NULL", x.read(0, 0, -7, 1), 0);
    x.sheet(0, 1, 8);
    row(x, 0, 0, 2, 3, 2, 0, 4, 1, 0);
    due("CAST", x.read(0, 0, 0, 1), 0);
    for (int f : new int[] {-1, 6, 8, 40, MIN, MAX, MAX - 2}) due("INDEX " + f, x.read(0, 1, f, 1), 0);
    due("two whole ahead", x.read(0, 1, 0, 10), 2);
    due("they came", x.rule(1), 2);
    due("from", x.train(1, 0), 2);
    due("to", x.train(1, 1), 0);
    due("length", x.train(1, 2), 4);
    x.sheet(1, 2, 9);
    row(x, 1, 1, 2, 3, 1, 1, 3, 1, 2, 4);
    due("the second is refused", x.read(1, 2, 0, 3), -21);
    due("none came", x.rule(1), 2);
    due("from cell 6", x.read(1, 2, 6, 1), 1);
    due("it is there", x.train(2, 2), 4);
    row(x, 1, 1, 2, 3, 1, 0, 3);
    due("full is refused, too", x.read(1, 2, 0, 2), -21);
    due("rolled back", x.rule(1), 3);
    row(x, 1, 1, 2, 20);
    due("STATE is refused, too", x.read(1, 2, 0, 1), -20);
    due("not whole is not refused", x.read(1, 2, 7, 1), 0);
  }

  private static void torn() {
    LineDispatch x = told("place 9 9;place 9 9;place 9 9;");
    x.read(2, 1, 0, 1);
    due("NULL", x.torn(), 1);
    x.sheet(2, 1, 6);
    x.read(2, 2, 0, 1);
    due("CAST", x.torn(), 3);
    row(x, 2, 0, 2, 3, 0, 0, 3);
    due("refused", x.read(2, 1, 0, 2), -21);
    due("leaves it", x.torn(), 3);
    due("BAD", x.read(2, 3, 0, 2), BAD);
    due("leaves it, too", x.torn(), 3);
    x.read(2, 1, 4, 1);
    due("INDEX", x.torn(), 2);
    x.sheet(1, 0, 0);
    x.read(1, 0, 0, 1);
    due("of no cells: INDEX, too", x.torn(), 2);
    due("lay there", x.lay(1, 0, 1), -12);
    due("whole", x.read(2, 1, 0, 1), 1);
    due("no fault", x.torn(), 0);
    x.read(3, 1, 0, 1);
    due("NULL again", x.torn(), 1);
    x.read(3, 0, 0, 0);
    due("of none: no fault", x.torn(), 0);
    row(x, 2, 1, 2, 3);
    due("one came", x.read(2, 1, 0, 1), 1);
    row(x, 2, 2, 0, 3, 2, 0, 3);
    due("CAST ahead of INDEX", x.read(2, 0, 99, 1), 0);
    due("it is CAST", x.torn(), 3);
  }

  private static void count() {
    LineDispatch x = told(TIMED + "section 8;train 0 2 4;train 2 1 5;");
    int[] want = {0, 7, 0, NONE, 9, 7};
    for (int i = 0; i < 6; i++) due("count " + i, x.count(i), want[i]);
    for (int i : new int[] {-1, 6, MIN, MAX}) due("count " + i, x.count(i), BAD);
    x.keep(1);
    x.feed(1);
    x.sheet(0, 1, 17);
    x.sheet(1, 1, 3);
    x.let(1);
    x.tick(9);
    int[] then = {1, 7, 1, 17, 9, 7};
    for (int i = 0; i < 6; i++) due("then count " + i, x.count(i), then[i]);
    x.drop(0);
    due("of those that are left", x.count(4), 5);
    due("one place", told("place 9;section 9;").count(5), 0);
  }

  private static void run(int number, Runnable test) {
    promise = number;
    test.run();
  }

  public static void main(String[] args) {
    Runnable[] tests = {
      PromisesTest::newObject, PromisesTest::feed, PromisesTest::end, PromisesTest::text, PromisesTest::fault,
      PromisesTest::rule, PromisesTest::place, PromisesTest::train, PromisesTest::why, PromisesTest::who,
      PromisesTest::order, PromisesTest::reach, PromisesTest::plan, PromisesTest::best, PromisesTest::let,
      PromisesTest::tick, PromisesTest::send, PromisesTest::journal, PromisesTest::add, PromisesTest::drop,
      PromisesTest::draw, PromisesTest::keep, PromisesTest::back, PromisesTest::sheet, PromisesTest::lay,
      PromisesTest::read, PromisesTest::torn, PromisesTest::count
    };
    for (int i = 0; i < tests.length; i++) run(i + 1, tests[i]);
    System.out.println("PromisesTest, answers: " + passed + " as due, " + failed + " not");
    if (failed > 0) System.exit(1);
  }
}
