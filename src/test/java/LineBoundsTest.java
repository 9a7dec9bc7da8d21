import java.lang.reflect.Field;
import java.lang.reflect.Method;

/** Each sentence of the document about places, trains, rules and images that names a bound: promises 6 to 23. */
public final class LineBoundsTest {
  private static final Checks c = new Checks("LineBoundsTest");
  private static final int BAD = Checks.BAD, STATE = Checks.STATE, FULL = Checks.FULL, NONE = Checks.NONE;
  private static final int MIN = Checks.MIN, MAX = Checks.MAX;

  private static final String NARROW = "place 9;place 9;place 9;place 9;";
  private static final String WIDE = "place 20 20 20;".repeat(6);
  /** 0 and 2 go up, 1 goes down; only place 3 has room for two. */
  private static final String CROSSING = "place 1;place 1;place 1;place 1 1;place 1;train 2 4 1;train 3 0 1;train 1 4 1;";
  /** The only way is that both meet at place 2: safe, but not one by one. */
  private static final String MEETING = "place 1;place 3;place 3 3;place 2;place 2;train 3 0 2;train 1 4 2;";
  private static final String ALONE = "place 9;section 2;place 9;section 3;place 9;train 0 2 1;";

  private static void holds() {
    c.sentence("A PLACE HOLDS some TRAINS, if there is a TRACK for each (one alone on each) that is as long at least");
    held("5", true, 5);
    held("5", false, 6);
    held("20", true, 20);
    held("9", false, 1, 1);
    held("9 9", true, 9, 9);
    held("9 9", false, 1, 1, 1);
    held("9 9 9", true, 9, 9, 9);
    held("9 9 9", false, 1, 1, 1, 1);
    held("3 9", true, 3, 9);
    held("3 9", true, 9, 3);
    held("9 3", true, 3, 9);
    held("3 9", false, 4, 9);
    held("3 9", false, 9, 4);
    held("5 6 7", true, 7, 6, 5);
    held("5 6 7", true, 6, 7, 5);
    held("7 5 6", true, 5, 6, 7);
    held("5 6 7", true, 1, 1, 7);
    held("5 6 7", false, 6, 6, 6);
    held("5 6 7", false, 5, 7, 7);
    held("5 6 7", false, 1, 8, 1);
  }

  /** Told by a text, and by add() where the last one is the one that counts. */
  private static void held(String tracks, boolean right, int... lengths) {
    StringBuilder b = new StringBuilder("place " + tracks + ";place 1;");
    LineDispatch x = c.told(b.toString());
    int last = 0;
    for (int n : lengths) {
      b.append("train 0 1 ").append(n).append(";");
      last = x.add(0, 1, n);
    }
    if (right) c.taken(b.toString(), 2 + lengths.length);
    else c.faulty(b.toString(), 7, b.length());
    if (right) c.due("by add()", last, lengths.length);
    else c.due("not all by add()", x.rule(1) < lengths.length ? 1 : 0, 1);
  }

  private static void room() {
    c.sentence("Those AT it and those that RUN into it (but to where they go) must be HELD");
    LineDispatch x = c.told("place 9;place 9;place 9;train 0 2 1;");
    c.due("AT it", x.add(0, 1, 1), STATE);
    x.let(0);
    c.due("it left", x.add(0, 1, 1), 2);
    c.due("RUNS into it", x.add(1, 2, 1), STATE);
    x.tick(1);
    c.due("AT that", x.add(1, 2, 1), STATE);
    x.let(0);
    c.due("RUNS to where it goes: room for another one", x.add(2, 1, 9), 3);
    c.sentence("DONE (it came to where it goes; it takes no room there)");
    LineDispatch y = c.told("place 9;place 1;train 0 1 9;");
    y.let(0);
    y.tick(1);
    c.due("it is DONE where no track is as long", y.train(0, 4), 2);
    c.due("it takes no room", y.add(1, 0, 1), 2);
    c.due("it is not there", y.place(1, 4), 1);
    LineDispatch z = c.told("place 9;place 9;train 0 1 1;train 1 0 1;");
    c.due("into a place that is full, where it goes", z.why(0), 0);
  }

  private static void ruleBounds() {
    c.sentence("rule: 0 PLACES .. 8. BAD");
    LineDispatch x = c.told(CROSSING);
    c.row("rule", x::rule, 5, 3, 0, 0, 0, 0, 1, 8, 1);
    c.bad("rule", x::rule, -1, 9, MIN, MAX);
    c.sentence("rule: 3 TRAINS that RUN, 4 that are DONE (none that RUNS)");
    x.let(0);
    c.row("one runs, rule", x::rule, 5, 3, 0, 1, 0, 1, 1, 7, 1);
    x.tick(1);
    x.let(0);
    c.row("it runs to where it goes, rule", x::rule, 5, 3, 1, 1, 0, 2, 1, 6, 1);
    x.tick(1);
    c.row("it came, rule", x::rule, 5, 3, 2, 0, 1, 2, 1, 6, 1);
    c.sentence("rule: 6 whether it is PLAIN (1, 0)");
    c.due("without trains", c.told("place 1;").rule(6), 1);
    c.due("one by one", c.told(NARROW + "train 0 3 1;train 3 0 1;").rule(6), 1);
    c.due("not one by one", c.told(MEETING).rule(6), 0);
    LineDispatch m = c.told(MEETING);
    m.let(0);
    c.due("one by one behind a step", m.rule(6), 1);
    c.sentence("rule: 7 how many MOVES are left till all are DONE");
    c.due("twenty at most", c.told("place 9 9 9;".repeat(6) + "train 0 5 1;".repeat(3) + "train 5 0 1;").rule(7), 20);
    c.due("none", c.told("place 1;").rule(7), 0);
    c.sentence("rule: 8 of TRAINS how many could be LET go now");
    LineDispatch w = c.told("place 9 9;place 9 9;train 0 1 1;train 0 1 1;train 1 0 1;train 1 0 1;");
    c.due("all four could", w.rule(8), 4);
    w.let(2);
    c.due("the section is taken for all", w.rule(8), 0);
  }

  private static void placeBounds() {
    c.sentence("place: 0 TRACKS, 1 to 3 their LENGTHS, the longest first (NONE)");
    LineDispatch x = c.told("place 1 20 7;place 7 1 20;place 5 6;place 6 5;place 20 7 1;place 4;");
    int[][] want = {{3, 20, 7, 1}, {3, 20, 7, 1}, {2, 6, 5, NONE}, {2, 6, 5, NONE}, {3, 20, 7, 1}, {1, 4, NONE, NONE}};
    for (int p = 0; p < 6; p++) for (int i = 0; i < 4; i++) c.due("place " + p + " " + i, x.place(p, i), want[p][i]);
    c.sentence("place: BAD");
    c.bad("no such place", p -> x.place(p, 0), -1, 6, 7, MIN, MAX);
    c.bad("what", w -> x.place(5, w), -1, 6, MIN, MAX);
    LineDispatch two = c.told("place 1;place 1;");
    c.bad("of two places", p -> two.place(p, 5), -1, 2, 5, 6);
    c.due("BAD ahead of NONE", two.place(2, 2), BAD);
    c.sentence("place: 4 TRAINS of the POSTURE there (not DONE)");
    LineDispatch y = c.told("place 9 9 9;place 9;place 9;train 0 1 1;train 0 2 1;train 0 2 1;");
    c.due("three", y.place(0, 4), 3);
    c.due("none", y.place(1, 4), 0);
    y.let(1);
    c.due("left", y.place(0, 4), 2);
    c.due("runs into it", y.place(1, 4), 1);
    y.tick(1);
    c.due("at it", y.place(1, 4), 1);
    y.let(0);
    c.due("runs to where it goes: not there", y.place(1, 4), 1);
    y.tick(1);
    c.due("done: not there", y.place(1, 4), 1);
    c.sentence("place: 5 MINUTES of the SECTION behind it (NONE: it is the last)");
    LineDispatch z = c.told("place 1;section 9;place 1;place 1;section 5;");
    c.due("nine", z.place(0, 5), 9);
    c.due("not told", z.place(1, 5), 1);
    c.due("the last, though told", z.place(2, 5), NONE);
    c.due("the only one", c.told("place 1;").place(0, 5), NONE);
  }

  private static void trainBounds() {
    c.sentence("train: 0 from, 1 to, 2 LENGTH, 3 its PLACE in the POSTURE (NONE: DONE), 4 0 AT, 1 RUNS, 2 DONE");
    LineDispatch x = c.told(ALONE);
    c.row("AT", i -> x.train(0, i), 0, 2, 1, 0, 0, NONE, 5);
    x.tick(1);
    x.let(0);
    c.row("RUNS", i -> x.train(0, i), 0, 2, 1, 1, 1, 3, 3);
    x.tick(2);
    c.row("AT the next", i -> x.train(0, i), 0, 2, 1, 1, 0, NONE, 3);
    c.sentence("(one that RUNS into where it goes is so there, too)");
    x.let(0);
    c.row("RUNS to where it goes", i -> x.train(0, i), 0, 2, 1, NONE, 1, 6, 0);
    c.sentence("train: 5 when it will be there, or was DONE (NONE: it is AT a PLACE), 6 MINUTES to run still");
    x.tick(60);
    c.row("DONE", i -> x.train(0, i), 0, 2, 1, NONE, 2, 6, 0);
    x.tick(60);
    c.due("it was DONE then, however late it is", x.train(0, 5), 6);
    LineDispatch y = c.told(WIDE.substring(0, 60) + "train 3 0 20;train 0 3 1;train 0 1 1;train 2 1 1;");
    c.row("down", i -> y.train(0, i), 3, 0, 20, 3, 0, NONE, 3);
    c.row("the fourth", i -> y.train(3, i), 2, 1, 1, 2, 0, NONE, 1);
    c.sentence("train: BAD");
    c.bad("no such train", t -> y.train(t, 0), -1, 4, MIN, MAX);
    c.bad("what", w -> y.train(3, w), -1, 7, MIN, MAX);
    c.bad("of one train", t -> x.train(t, 5), -1, 1, 3);
  }

  private static void against() {
    c.sentence("To LET a TRAIN go, what stands against it, the first: 1 .. 5; who: 3, 4, 5; NONE: other reasons");
    LineDispatch x = c.told(CROSSING);
    whys(x, 0, NONE, 4, 0, 4, 0);
    x.let(0);
    whys(x, 2, NONE, 3, 0, 0, NONE);
    x.tick(1);
    whys(x, 0, NONE, 5, 1, 0, NONE);
    x.let(2);
    whys(x, 0, NONE, 4, 2, 2, NONE);
    x.tick(1);
    whys(x, 0, NONE, 4, 2, 4, 0);
    x.let(0);
    whys(x, 2, NONE, 4, 2, 0, NONE);
    x.tick(1);
    whys(x, 1, NONE, 4, 2, 0, NONE);
    x.let(2);
    whys(x, 1, NONE, 3, 2, 2, NONE);
    x.tick(1);
    whys(x, 1, NONE, 0, NONE, 0, NONE);
    LineDispatch first = c.told(CROSSING);
    first.let(0);
    first.tick(1);
    c.due("who() need not be asked behind why()", first.who(1), 1);
    c.sentence("why, who: BAD");
    c.bad("why", x::why, -1, 3, 4, MIN, MAX);
    c.bad("who", x::who, -1, 3, 4, MIN, MAX);
    c.bad("why without trains", new LineDispatch()::why, -1, 0);
    c.bad("who without trains", new LineDispatch()::who, -1, 0);
  }

  /** why() and who() of each train. */
  private static void whys(LineDispatch x, int... wanted) {
    for (int t = 0; t < wanted.length / 2; t++) {
      c.due("minute " + x.rule(2) + ", why " + t, x.why(t), wanted[2 * t]);
      c.due("minute " + x.rule(2) + ", who " + t, x.who(t), wanted[2 * t + 1]);
    }
  }

  private static void reasons() {
    c.sentence("1 it is DONE; 2 it RUNS: ahead of the others");
    LineDispatch x = c.told("place 9;section 2;place 9;section 9;place 9;place 9;train 0 3 1;train 1 3 1;");
    x.let(1);
    x.let(0);
    whys(x, 2, NONE, 2, NONE);
    c.sentence("3 another one RUNS in the SECTION: ahead of 4");
    x.tick(2);
    whys(x, 3, 1, 2, NONE);
    x.tick(7);
    whys(x, 4, 1, 0, NONE);
    c.sentence("3 another one RUNS in the SECTION");
    LineDispatch same = c.told("place 9 9;place 9 9 9;place 9;train 0 1 1;train 0 2 1;train 1 2 1;train 1 0 1;");
    same.let(1);
    whys(same, 3, 1, 2, NONE, 0, NONE, 3, 1);
    same.tick(1);
    c.due("free again", same.why(0), 0);
    c.sentence("4 the next PLACE is not where it goes and would not HOLD it");
    LineDispatch z = c.told("place 9;place 3 9;place 9;train 0 2 4;train 1 2 9;");
    c.due("3 is too short for it", z.why(0), 4);
    c.due("who is there", z.who(0), 1);
    z.drop(1);
    c.due("9 is free", z.why(0), 0);
    c.due("where it goes is too short", c.told("place 9;place 1;train 0 1 9;").why(0), 0);
    c.due("where it goes is full", c.told("place 9;place 9;train 0 1 9;train 1 0 9;").why(0), 0);
    c.sentence("who: 4 the first TRAIN that is there");
    LineDispatch two = c.told("place 9;place 9 9;place 9;train 1 0 1;train 1 2 1;train 0 2 1;");
    c.due("why", two.why(2), 4);
    c.due("the first of two", two.who(2), 0);
    two.let(0);
    two.tick(1);
    c.due("one is done", two.why(2), 0);
    LineDispatch done = c.told("place 9 9;place 9;place 9;train 0 1 1;train 1 2 1;train 0 2 1;");
    done.let(0);
    done.tick(1);
    whys(done, 1, NONE, 0, NONE, 4, 1);
    c.sentence("who: 5 the first TRAIN that could not be DONE any more (of which no row of MOVES does)");
    LineDispatch third = c.told("place 9 9 9;place 9;place 9;place 9;train 0 1 1;train 0 1 1;train 0 3 1;train 3 0 1;");
    third.let(2);
    whys(third, 3, 2, 3, 2, 2, NONE, 5, 2);
    LineDispatch lost = c.told("place 9 9;place 9;place 9;place 9;train 0 1 1;train 0 3 1;train 3 0 1;");
    lost.let(1);
    whys(lost, 3, 1, 2, NONE, 5, 1);
    LineDispatch nobody = c.told("place 1;place 2;place 3;place 2;train 3 0 1;train 1 3 2;");
    c.due("shut in by it", nobody.why(0), 5);
    c.due("itself is the first", nobody.who(0), 0);
  }

  private static void order() {
    c.sentence("order: The i-th TRAIN (0 on) that is DONE, one by one (not those that are DONE). BAD: i below 0");
    LineDispatch x = c.told("place 1;place 1 1;place 1;place 1;train 1 3 1;train 2 3 1;train 1 0 1;");
    c.row("order", x::order, 1, 0, 2, NONE, NONE, NONE);
    c.bad("order", x::order, -1, MIN);
    c.due("not so many", x.order(MAX), NONE);
    x.let(1);
    c.row("1 runs to where it goes, order", x::order, 0, 2, NONE, NONE);
    x.tick(1);
    c.row("1 is DONE, order", x::order, 0, 2, NONE, NONE);
    c.sentence("order: NONE: there are not so many, or it is not PLAIN so far");
    c.due("no trains", new LineDispatch().order(0), NONE);
    c.due("no trains, below 0", new LineDispatch().order(-1), BAD);
    c.row("nobody can, order", c.told(MEETING)::order, NONE, NONE, NONE);
    c.row("one can, order", c.told(MEETING + "train 0 1 1;")::order, 2, NONE, NONE);
    LineDispatch four = c.told("place 9 9;place 9 9;train 0 1 1;train 0 1 1;train 1 0 1;train 1 0 1;");
    c.row("four, order", four::order, 0, 1, 2, 3, NONE);
    c.sentence("PLAIN: each by MOVES of its own alone: always the first that can, till none is left");
    c.row("the first again and again, order", c.told("place 9;place 9;place 9;place 9;train 0 3 1;train 1 3 1;train 2 3 1;")::order,
        2, 1, 0, NONE);
  }

  private static void reach() {
    c.sentence("reach: How many POSTURES can be reached from the one as it is by MOVES (it too): 0 all, 1 those that are SAFE. BAD");
    LineDispatch x = c.told(ALONE);
    c.bad("reach", x::reach, -1, 2, MIN, MAX);
    c.row("two steps, reach", x::reach, 3, 3);
    x.let(0);
    c.row("one step, reach", x::reach, 2, 2);
    x.tick(2);
    x.let(0);
    c.row("it runs to where it goes, reach", x::reach, 1, 1);
    x.tick(3);
    c.row("DONE, reach", x::reach, 1, 1);
    c.row("no trains, reach", new LineDispatch()::reach, 1, 1);
    // of 6 times 6 times 6 times 6 only those are not there in which four are at one place of three tracks
    c.row("all but four, reach", c.told("place 9 9 9;".repeat(6) + "train 0 5 1;".repeat(3) + "train 5 0 1;")::reach, 1292, 1292);
    c.row("one of seven is not SAFE, reach", c.told("place 1;place 2;place 3;place 2;train 3 0 1;train 1 3 2;")::reach, 7, 6);
    // of 4 times 4 not both at 1, both at 2, nor past each other; not SAFE: at 1 and 2 against each other
    LineDispatch against = c.told(NARROW + "train 0 3 1;train 3 0 1;");
    c.row("against each other, reach", against::reach, 13, 12);
    against.let(0);
    c.row("what can not be reached any more is left out, reach", against::reach, 7, 6);
  }

  private static void plan() {
    c.sentence("plan: at each MINUTE, as the CLOCK goes on, TRAINS are LET go by it (behind those that came)");
    LineDispatch x = c.told(ALONE);
    plans(x, 5, 5);
    x.tick(4);
    plans(x, 9, 9);
    x.let(0);
    plans(x, 9, 9);
    x.tick(1);
    plans(x, 9, 9);
    x.tick(2);
    plans(x, 10, 10);
    x.let(0);
    plans(x, 10, 10);
    LineDispatch two = c.told("place 9;section 9;place 9;place 9;place 9;train 0 1 1;train 1 3 1;");
    plans(two, 9, 9 + 2);
    two.tick(20);
    plans(two, 29, 29 + 22);
    two.let(0);
    two.tick(3);
    plans(two, 29, 29 + 25);
    plans(c.told("place 1;section 9;".repeat(5) + "place 1;train 0 5 1;"), 45, 45);
    plans(c.told("place 9 9;place 9;place 9;place 9;place 9;place 9 9;train 0 5 1;train 0 5 1;train 5 0 1;train 5 0 1;"),
        12, 5 + 6 + 11 + 12);
    c.sentence("plan: 1 .. summed (also of those that are DONE now; both 0 without TRAINS)");
    x.tick(60);
    plans(x, 10, 10);
    x.add(0, 1, 1);
    plans(x, 69, 79);
    x.drop(0);
    plans(x, 69, 69);
    x.drop(0);
    plans(x, 0, 0);
    c.sentence("plan: (nothing changes)");
    LineDispatch y = c.told(CROSSING);
    y.plan(0, 0);
    y.plan(2, 1);
    c.row("rule", y::rule, 5, 3, 0, 0, 0, 0, 1, 8, 1);
    c.sentence("plan: BAD");
    c.bad("rule", r -> y.plan(r, 0), -1, 3, MIN, MAX);
    c.bad("what", w -> y.plan(2, w), -1, 2, MIN, MAX);
    c.bad("rule without trains", r -> new LineDispatch().plan(r, 0), -1, 3);
    c.bad("what without trains", w -> new LineDispatch().plan(0, w), -1, 2);
  }

  private static void plans(LineDispatch x, int last, int sum) {
    for (int r = 0; r < 3; r++) {
      c.due("minute " + x.rule(2) + ", the last by " + r, x.plan(r, 0), last);
      c.due("minute " + x.rule(2) + ", the sum by " + r, x.plan(r, 1), sum);
    }
  }

  private static void best() {
    c.sentence("best: NONE: no TRAINS");
    c.due("no places", new LineDispatch().best(), NONE);
    LineDispatch x = c.told("place 9;place 9;train 0 1 1;");
    c.due("one train", x.best(), 0);
    x.let(0);
    x.tick(1);
    c.due("it is DONE", x.best(), 0);
    x.drop(0);
    c.due("it is gone", x.best(), NONE);
    c.sentence("best: the least sum, of several the first");
    bestOf("place 1;place 3 2;place 3;train 2 0 1;train 1 2 3;train 0 2 1;", 1, 8, 7, 8);
    bestOf("place 2 3;place 3;place 1;place 3;train 0 1 2;train 0 2 2;train 3 0 1;", 2, 9, 9, 8);
    bestOf("place 9 9;section 5;place 9;place 9 9;train 0 2 4;train 0 1 4;", 0, 16, 16, 16);
    bestOf("place 3 3;place 1 1;place 1;place 1 3;train 0 3 1;train 0 1 2;train 3 2 1;train 3 0 1;", 1, 12, 11, 11);
  }

  private static void bestOf(String text, int best, int... sums) {
    LineDispatch x = c.told(text);
    c.row("sum of '" + text + "'", r -> x.plan(r, 1), sums);
    c.due("best of '" + text + "'", x.best(), best);
  }

  private static void let() {
    c.sentence("let: A TRAIN is LET go: when it will be there. BAD; STATE: something stands against it");
    LineDispatch x = c.told(CROSSING);
    c.bad("let", x::let, -1, 3, 4, MIN, MAX);
    c.bad("let without trains", new LineDispatch()::let, -1, 0);
    c.due("4: would not be held", x.let(1), STATE);
    c.due("there at 1", x.let(0), 1);
    c.due("2: it runs", x.let(0), STATE);
    c.due("3: in the section", x.let(1), STATE);
    x.tick(1);
    c.due("5: not safe", x.let(1), STATE);
    c.due("there at 2", x.let(0), 2);
    c.due("2: it runs to where it goes", x.let(0), STATE);
    x.tick(1);
    c.due("1: it is DONE", x.let(0), STATE);
    c.due("entries: only those that went", x.rule(5), 2);
    c.sentence("Let go it RUNS into the next PLACE, and is there after the MINUTES of the SECTION (it is AT it, or DONE)");
    LineDispatch y = c.told("place 1;section 9;place 1;place 1;train 0 2 1;");
    c.due("nine minutes", y.let(0), 9);
    c.due("eight of them", y.tick(8), 0);
    c.due("it runs", y.train(0, 4), 1);
    c.due("the ninth", y.tick(1), 1);
    c.due("it is AT it", y.train(0, 4), 0);
    c.due("one minute", y.let(0), 10);
    c.due("it came", y.tick(1), 1);
    c.due("it is DONE", y.train(0, 4), 2);
  }

  private static void tick() {
    c.sentence("tick: The CLOCK goes on by n MINUTES (1 to 60). BAD");
    LineDispatch x = new LineDispatch();
    c.bad("tick", x::tick, 0, -1, 61, MIN, MAX);
    c.due("the clock stands", x.rule(2), 0);
    c.due("1", x.tick(1), 0);
    c.due("60", x.tick(60), 0);
    c.due("the clock", x.rule(2), 61);
    c.sentence("tick: how many TRAINS came to where they RAN");
    LineDispatch y = c.told("place 9 9;section 2;place 9 9;section 4;place 9 9;train 0 1 1;train 1 2 1;train 2 1 1;train 0 2 1;");
    y.let(0);
    y.let(1);
    c.due("none yet", y.tick(1), 0);
    c.due("one", y.tick(1), 1);
    y.let(3);
    c.due("two in one minute", y.tick(2), 2);
    c.due("those who stand do not come", y.tick(60), 0);
    y.let(2);
    c.due("to where it goes, long ago", y.tick(60), 1);
  }

  private static void send() {
    c.sentence("RULES: 0 by number; 1 those first that have the fewest MINUTES to run still; 2 those first that have the most, then by number");
    String up = "place 9 9 9;section 2;place 9;section 3;place 9;section 4;place 9;";
    sends(up + "train 0 2 1;train 0 1 1;train 0 3 1;", 0, 1, 2);
    sends(up + "train 0 3 1;train 0 2 1;train 0 1 1;", 0, 2, 0);
    sends(up + "train 0 2 1;train 0 1 1;train 0 1 1;", 0, 1, 0);
    sends(up + "train 0 1 1;train 0 2 1;train 0 2 1;", 0, 0, 1);
    sends(up + "train 0 2 1;train 0 2 1;train 0 2 1;", 0, 0, 0);
    // four sections of 4 minutes in all, or three of 11: minutes count, not sections
    sends("place 1;section 9;place 1 1;place 1;place 1 1;place 1;place 1;train 3 0 1;train 1 5 1;", 0, 1, 0);
    c.sentence("always the first by it that can be LET go is, till none can be; send: how many were");
    LineDispatch x = c.told("place 9;place 9;place 9;place 9;train 0 3 1;train 1 3 1;train 2 3 1;");
    c.due("each leaves room for the one behind", x.send(0), 3);
    c.due("none more", x.send(0), 0);
    x.tick(1);
    c.due("those two that are not DONE", x.send(2), 2);
    LineDispatch w = c.told("place 9 9;place 9 9;place 9 9;train 0 1 1;train 1 0 1;train 1 2 1;train 2 1 1;");
    c.due("one in each section", w.send(1), 2);
    c.due("without trains", new LineDispatch().send(0), 0);
    LineDispatch behind = c.told(CROSSING);
    behind.let(0);
    c.due("behind a let()", behind.send(0), 1);
    c.due("who that was", behind.journal(1, 1), 2);
    c.sentence("send: BAD");
    c.bad("send", w::send, -1, 3, MIN, MAX);
    c.bad("send without trains", new LineDispatch()::send, -1, 3);
  }

  /** By each rule one alone goes: who it is. */
  private static void sends(String text, int... who) {
    for (int r = 0; r < 3; r++) {
      LineDispatch x = c.told(text);
      c.due("by " + r + " of '" + text + "'", x.send(r), 1);
      c.due("who by " + r + " of '" + text + "'", x.journal(0, 1), who[r]);
    }
  }

  private static void journal() {
    c.sentence("THE JOURNAL: who was LET go and when: by MINUTE, then by TRAIN");
    LineDispatch x = c.told("place 9;place 9;place 9;place 9;place 9;place 9;train 0 2 1;train 2 3 1;train 3 4 1;train 5 4 1;");
    c.due("no entry", x.journal(0, 0), NONE);
    x.tick(7);
    for (int t : new int[] {3, 2, 1, 0}) x.let(t);
    x.tick(1);
    x.let(0);
    int[][] want = {{7, 0, 0}, {7, 1, 2}, {7, 2, 3}, {7, 3, 5}, {8, 0, 1}};
    for (int i = 0; i < 5; i++) for (int w = 0; w < 3; w++) c.due("entry " + i + ", " + w, x.journal(i, w), want[i][w]);
    c.sentence("journal: BAD: i below 0, what; NONE: there are not so many");
    for (int i : new int[] {5, 60, 61, MAX}) c.due("not so many: " + i, x.journal(i, 0), NONE);
    c.bad("i", i -> x.journal(i, 0), -1, MIN);
    c.bad("what", w -> x.journal(4, w), -1, 3, MIN, MAX);
    c.bad("what, ahead of NONE", w -> x.journal(5, w), -1, 3);
    c.sentence("rule: 5 those in THE JOURNAL");
    LineDispatch most = c.told("place 9 9 9;".repeat(6) + "train 0 5 1;".repeat(3) + "train 5 0 1;");
    for (int i = 0; i < 60 && most.rule(4) < 4; i++) {
      most.send(0);
      most.tick(1);
    }
    c.due("all that can ever be", most.rule(5), 20);
    c.due("the last", most.journal(19, 0), most.plan(0, 0) - 1);
    c.due("one more", most.journal(20, 0), NONE);
  }

  /** No run of calls comes to more than 20 entries, so the limit is looked at from within. */
  private static void journalLimit() throws ReflectiveOperationException {
    c.sentence("THE JOURNAL (60 at most: what is ahead of the latest 60 is gone)");
    LineDispatch x = c.told("place 9;place 9;train 0 1 1;");
    Field field = LineDispatch.class.getDeclaredField("line");
    field.setAccessible(true);
    Object line = field.get(x);
    Field clock = line.getClass().getDeclaredField("clock");
    clock.setAccessible(true);
    Method enter = line.getClass().getDeclaredMethod("enterJournal", int.class, int.class);
    enter.setAccessible(true);
    for (int i = 1; i <= 63; i++) {
      clock.setInt(line, 100 + i);
      enter.invoke(line, i % 4, i % 6);
      c.due("entries", x.rule(5), Math.min(i, 60));
      c.due("the first", x.journal(0, 0), 100 + Math.max(1, i - 59));
    }
    for (int i = 0; i < 60; i++) {
      c.due("minute " + i, x.journal(i, 0), 104 + i);
      c.due("train " + i, x.journal(i, 1), (4 + i) % 4);
      c.due("place " + i, x.journal(i, 2), (4 + i) % 6);
    }
    c.due("the 61st", x.journal(60, 0), NONE);
  }

  private static void add() {
    c.sentence("add: BAD: also from is to");
    LineDispatch x = c.told("place 20;place 20;place 20 20;");
    c.bad("from", n -> x.add(n, 0, 1), -1, 3, 6, MIN, MAX);
    c.bad("to", n -> x.add(0, n, 1), -1, 3, 6, MIN, MAX);
    c.bad("length", n -> x.add(0, 1, n), 0, -1, 21, MIN, MAX);
    c.bad("from is to", n -> x.add(n, n, 1), 0, 1, 2, 3);
    c.bad("no places", n -> new LineDispatch().add(n, 1 - n, 1), 0, 1);
    c.sentence("add: A TRAIN more, AT its PLACE from: how many there are");
    c.due("the longest", x.add(0, 2, 20), 1);
    c.due("from the last, the shortest", x.add(2, 0, 1), 2);
    c.row("as it was added", i -> x.train(1, i), 2, 0, 1, 2, 0, NONE, 2);
    c.sentence("add: STATE: that does not HOLD it, or it would not be SAFE");
    c.due("no track is left", x.add(0, 1, 1), STATE);
    LineDispatch y = c.told("place 9;place 8;place 9;place 9;");
    c.due("too long for where it is", y.add(0, 1, 10), STATE);
    c.due("too long for its way", y.add(0, 2, 9), STATE);
    c.due("not too long for where it goes", y.add(0, 1, 9), 1);
    c.due("on the way of that", y.add(1, 3, 8), 2);
    c.due("against that", y.add(2, 0, 1), STATE);
    c.due("not too long for its way", y.add(3, 0, 8), 3);
    c.sentence("add: FULL (ahead of STATE)");
    c.due("the fourth", y.add(2, 3, 1), 4);
    c.due("the fifth", y.add(2, 3, 1), FULL);
    c.due("ahead of STATE", y.add(0, 2, 20), FULL);
    c.due("BAD ahead of FULL", y.add(0, 0, 1), BAD);
    c.due("BAD ahead of FULL", y.add(0, 4, 1), BAD);
    c.due("BAD ahead of FULL", y.add(0, 1, 21), BAD);
    y.drop(0);
    c.due("again one", y.add(0, 1, 9), 4);
    LineDispatch four = c.told("place 9;place 9;train 0 1 1;");
    for (int i = 0; i < 3; i++) {
      four.let(i);
      four.tick(1);
      four.add(0, 1, 1);
    }
    c.due("those that are DONE are there, too", four.add(1, 0, 1), FULL);
    four.drop(3);
    four.drop(2);
    c.due("in the stead of one that was DONE", four.add(0, 1, 7), 3);
    c.row("it is AT its place", i -> four.train(2, i), 0, 1, 7, 0, 0, NONE, 1);
    four.plan(0, 0);
    Checks.tell(four, "place 9;place 9;train 1 0 1;");
    c.row("as is one of a text", i -> four.train(0, i), 1, 0, 1, 1, 0, NONE, 1);
  }

  private static void drop() {
    c.sentence("drop: how many are left. BAD; STATE: it RUNS");
    LineDispatch x = c.told("place 9;place 9;place 9;place 9;place 9;place 9;train 0 2 3;train 2 3 4;train 3 4 5;train 5 4 6;");
    c.bad("drop", x::drop, -1, 4, MIN, MAX);
    for (int t : new int[] {3, 1, 0}) x.let(t);
    c.due("it runs", x.drop(0), STATE);
    c.due("it runs to where it goes", x.drop(1), STATE);
    c.due("four still", x.rule(1), 4);
    x.tick(1);
    x.let(0);
    x.let(2);
    c.sentence("drop: A TRAIN goes that is AT a PLACE or DONE, those behind it are numbered one less");
    c.due("DONE", x.drop(1), 3);
    c.row("from", t -> x.train(t, 0), 0, 3, 5, BAD);
    c.row("to", t -> x.train(t, 1), 2, 4, 4, BAD);
    c.row("lengths", t -> x.train(t, 2), 3, 5, 6, BAD);
    c.row("what they do", t -> x.train(t, 4), 1, 1, 2, BAD);
    c.row("when", t -> x.train(t, 5), 2, 2, 1, BAD);
    c.row("places", t -> x.train(t, 3), NONE, NONE, NONE, BAD);
    c.sentence("drop: (in THE JOURNAL it is gone, others as they are numbered then)");
    c.due("four entries", x.rule(5), 4);
    int[][] want = {{0, 0, 0}, {0, 2, 5}, {1, 0, 1}, {1, 1, 3}};
    for (int i = 0; i < 4; i++) for (int w = 0; w < 3; w++) c.due("entry " + i + ", " + w, x.journal(i, w), want[i][w]);
    c.due("no fifth", x.journal(4, 0), NONE);
    x.tick(1);
    c.due("the first", x.drop(0), 2);
    c.due("two entries", x.rule(5), 2);
    c.due("of the one that was 2", x.journal(0, 1), 1);
    c.due("the last", x.drop(1), 1);
    c.due("the only one", x.drop(0), 0);
    c.due("none", x.drop(0), BAD);
    c.due("no entries", x.rule(5), 0);
    c.due("the clock stays", x.rule(2), 2);
    LineDispatch y = c.told("place 9;place 9;place 9;train 1 2 1;train 0 2 1;");
    c.due("it stands against it", y.why(1), 4);
    c.due("AT a place", y.drop(0), 1);
    c.due("its room is free", y.why(0), 0);
    c.due("what is left", y.reach(0), 3);
    LineDispatch z = c.told(CROSSING);
    whys(z, 0, NONE, 4, 0, 4, 0);
    c.row("order", z::order, 0, 2, 1, NONE);
    z.drop(0);
    c.row("order behind it", z::order, 1, 0, NONE);
    whys(z, 5, 0, 0, NONE, BAD, BAD);
    LineDispatch lengths = c.told("place 9 9;place 3 9;place 9;train 0 1 9;train 0 2 4;train 1 2 3;");
    c.row("order of three", lengths::order, 0, 1, 2, NONE);
    lengths.drop(0);
    c.row("order by their lengths then", lengths::order, 0, 1, NONE);
  }

  private static void draw() {
    c.sentence("draw: n times (1 to 8). BAD; STATE: there are no PLACES");
    LineDispatch none = new LineDispatch();
    for (int n = 1; n <= 8; n++) c.due("no places, " + n, none.draw(1, n), STATE);
    c.bad("BAD ahead of STATE", n -> none.draw(1, n), 0, -1, 9, MIN, MAX);
    LineDispatch x = c.told(WIDE);
    c.bad("times", n -> x.draw(1, n), 0, -1, 9, MIN, MAX);
    c.due("nothing came", x.rule(1), 0);
    c.sentence("draw: from got modulo PLACES, to got by 8 (down) modulo PLACES, LENGTH got by 64 (down) modulo 6 and 1");
    // seed 0: got 0, 21468, 9988, 22117, 3498
    int[][] first = {{0, 1, 6}, {4, 0, 1}, {1, 4, 4}, {0, 5, 1}};
    drawn(0, 8, 4, first);
    drawn(0, 1, 0, first);
    drawn(0, 2, 1, first);
    drawn(0, 4, 3, first);
    drawn(0, 5, 4, first);
    c.sentence("draw: the seed becomes seed times 1103515245 and 12345; bits 16 to 30 of it are got");
    drawn(12345, 4, 4, first);
    drawn(1, 4, 4, new int[][] {{2, 4, 6}, {4, 5, 6}, {3, 4, 3}, {1, 5, 4}});
    drawn(65536, 5, 3, new int[][] {{5, 0, 4}, {2, 4, 6}, {1, 0, 2}});
    // the seed wraps around: -1 and the greatest differ by the highest bit alone, as do the least and 0
    int[][] wrapped = {{4, 2, 5}, {0, 3, 4}, {1, 3, 5}, {2, 0, 4}};
    drawn(-1, 8, 4, wrapped);
    drawn(MAX, 8, 4, wrapped);
    drawn(MIN, 8, 4, first);
    c.sentence("draw: as by add(), if it may be: how many came");
    c.due("of one place to is from", c.told("place 20;").draw(1, 8), 0);
    LineDispatch narrow = c.told("place 20;place 20;");
    // seed 0 of two places: 0 0, 0 1 6, 0 0, 1 0 4, 0 1 1: place 0 does not hold both
    c.due("two may be", narrow.draw(0, 5), 2);
    c.row("the first", i -> narrow.train(0, i), 0, 1, 6);
    c.row("the second", i -> narrow.train(1, i), 1, 0, 4);
    LineDispatch full = c.told(WIDE);
    c.due("four at most", full.draw(0, 8), 4);
    c.due("none more", full.draw(0, 8), 0);
    c.due("four", full.rule(1), 4);
  }

  private static void drawn(int seed, int n, int came, int[][] trains) {
    LineDispatch x = c.told(WIDE);
    c.due("by seed " + seed + ", " + n + " times", x.draw(seed, n), came);
    c.due("trains by seed " + seed, x.rule(1), came);
    for (int t = 0; t < came; t++) {
      int it = t;
      c.row("seed " + seed + ", train " + t, i -> x.train(it, i), trains[t]);
    }
  }

  private static void keep() {
    c.sentence("keep: IMAGE k (0, 1) is PLACES, TRAINS, CLOCK, THE JOURNAL: whether there was one (1, 0). BAD");
    LineDispatch x = c.told(ALONE);
    c.bad("keep", x::keep, -1, 2, MIN, MAX);
    c.due("no image", x.count(0), 0);
    c.due("1, the first time", x.keep(1), 0);
    c.due("one image", x.count(0), 1);
    c.due("1, again", x.keep(1), 1);
    c.due("0, the first time", x.keep(0), 0);
    c.due("two images", x.count(0), 2);
    c.due("0, again", x.keep(0), 1);
    Checks.tell(x, ".");
    c.due("a fault leaves them", x.keep(0), 1);
    x.text();
    c.due("a text takes them", x.count(0), 0);
    c.due("there was none", x.keep(0), 0);
    c.sentence("back: All is as IMAGE k: TRAINS. BAD; STATE: there is none");
    LineDispatch y = c.told(ALONE);
    c.bad("back", y::back, -1, 2, MIN, MAX);
    c.row("back without one", y::back, STATE, STATE);
    y.keep(0);
    c.due("the other one is not there", y.back(1), STATE);
    y.let(0);
    y.tick(1);
    y.add(0, 1, 7);
    y.keep(1);
    y.tick(9);
    y.send(0);
    y.drop(1);
    c.due("one train of image 0", y.back(0), 1);
    c.row("rule", y::rule, 3, 1, 0, 0, 0, 0, 1, 2, 1);
    c.row("its train", i -> y.train(0, i), 0, 2, 1, 0, 0, NONE, 5);
    c.due("two of image 1", y.back(1), 2);
    c.row("then rule", y::rule, 3, 2, 1, 1, 0, 1, 1, 2, 0);
    c.row("the running one", i -> y.train(0, i), 0, 2, 1, 1, 1, 2, 3);
    c.row("its entry", i -> y.journal(0, i), 0, 0, 0);
    c.due("it comes", y.tick(1), 1);
    c.due("image 1 is as it was kept", y.back(1), 2);
    c.due("its clock", y.rule(2), 1);
    c.due("both are still there", y.count(0), 2);
    LineDispatch q = c.told(CROSSING);
    q.tick(5);
    q.let(0);
    q.keep(0);
    q.tick(1);
    q.let(0);
    q.tick(1);
    q.drop(0);
    q.let(1);
    q.keep(1);
    q.why(0);
    q.back(0);
    c.row("order of image 0", q::order, 0, 2, 1, NONE);
    whys(q, 2, NONE, 3, 0, 0, NONE);
    c.row("its entry", i -> q.journal(0, i), 5, 0, 2);
    c.due("no other", q.journal(1, 0), NONE);
    q.back(1);
    c.row("order of image 1", q::order, 1, 0, NONE);
    whys(q, 4, 1, 2, NONE, BAD, BAD);
    c.row("its entry", i -> q.journal(0, i), 7, 1, 1);
    c.due("no other", q.journal(1, 0), NONE);
    LineDispatch other = c.told("place 9 9;place 9;place 9;place 9;train 0 3 1;train 3 0 1;");
    other.keep(0);
    other.drop(1);
    other.add(0, 3, 1);
    c.row("others that go the same way, why", other::why, 0, 0);
    other.back(0);
    other.let(0);
    whys(other, 2, NONE, 5, 0);
    LineDispatch none = new LineDispatch();
    none.keep(0);
    c.due("of no trains", none.back(0), 0);
    c.sentence("back: all is as IMAGE k (PLACES, TRAINS, CLOCK, THE JOURNAL: nothing else)");
    y.sheet(0, 0, 7);
    y.read(0, 1, 0, 1);
    Checks.tell(y, ".");
    y.feed(32);
    y.back(0);
    c.row("count", y::count, 2, 3, 1, 7, 1, 5);
    c.due("the fault of the text", y.fault(), 1);
    c.due("the fault of the read()", y.torn(), Checks.CAST);
  }

  public static void main(String[] args) throws ReflectiveOperationException {
    holds();
    room();
    ruleBounds();
    placeBounds();
    trainBounds();
    against();
    reasons();
    order();
    reach();
    plan();
    best();
    let();
    tick();
    send();
    journal();
    journalLimit();
    add();
    drop();
    draw();
    keep();
    c.finish();
  }
}
