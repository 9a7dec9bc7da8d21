import java.util.ArrayList;
import java.util.List;
import java.util.function.Consumer;
import java.util.function.ToIntFunction;

/**
 * 'What is refused changes nothing (but THE TAPE, as told)', and what only asks changes nothing either: of two objects
 * with the same calls behind them one gets the call besides; whatever is asked of both then must be answered alike.
 */
public final class RefusedTest {
  private static final Checks c = new Checks("RefusedTest");
  private static final int BAD = Checks.BAD, STATE = Checks.STATE, FULL = Checks.FULL, NONE = Checks.NONE;
  private static final int MIN = Checks.MIN, MAX = Checks.MAX;
  private static final int BYTES = 0, SHORTS = 1, INTS = 2;
  private static final String TAPE = "place 6 7;section 3;place 5";
  private static final String CROSSING = "place 1;place 1;place 1;place 1 1;place 1;train 2 4 1;train 3 0 1;train 1 4 1;";

  /** All that was asked of an object, each call with its answer. */
  private static final class Seen {
    final List<String> rows = new ArrayList<>();

    void add(String call, int answer) {
      rows.add(call + " = " + answer);
    }
  }

  private interface Look {
    void at(LineDispatch x, Seen seen);
  }

  private static final List<Look> LOOKS = List.of(RefusedTest::lookAtLine, RefusedTest::lookAtImages, RefusedTest::lookAtTape,
      RefusedTest::lookAtSheets);

  private static void lookAtTrains(LineDispatch x, Seen s) {
    for (int i = 0; i < 9; i++) s.add("rule(" + i + ")", x.rule(i));
    for (int t = 0; t < 5; t++) {
      for (int i = 0; i < 7; i++) s.add("train(" + t + ", " + i + ")", x.train(t, i));
      s.add("why(" + t + ")", x.why(t));
      s.add("who(" + t + ")", x.who(t));
      s.add("order(" + t + ")", x.order(t));
    }
    for (int i = 0; i < 9; i++) for (int w = 0; w < 3; w++) s.add("journal(" + i + ", " + w + ")", x.journal(i, w));
  }

  private static void lookAtLine(LineDispatch x, Seen s) {
    lookAtTrains(x, s);
    for (int p = 0; p < 6; p++) for (int i = 0; i < 6; i++) s.add("place(" + p + ", " + i + ")", x.place(p, i));
    for (int i = 0; i < 6; i++) s.add("count(" + i + ")", x.count(i));
    for (int i = 0; i < 2; i++) s.add("reach(" + i + ")", x.reach(i));
    for (int r = 0; r < 3; r++) for (int i = 0; i < 2; i++) s.add("plan(" + r + ", " + i + ")", x.plan(r, i));
    s.add("best()", x.best());
    s.add("fault()", x.fault());
    s.add("torn()", x.torn());
    for (int i = 0; i < 4; i++) {
      s.add("send(1)", x.send(1));
      s.add("tick(2)", x.tick(2));
    }
    lookAtTrains(x, s);
  }

  private static void lookAtImages(LineDispatch x, Seen s) {
    for (int k = 0; k < 2; k++) {
      s.add("back(" + k + ")", x.back(k));
      lookAtTrains(x, s);
      s.add("keep(" + k + ")", x.keep(k));
    }
  }

  private static void lookAtTape(LineDispatch x, Seen s) {
    s.add("feed", x.feed(';'));
    s.add("text()", x.text());
    s.add("fault()", x.fault());
    lookAtTrains(x, s);
    for (int p = 0; p < 6; p++) for (int i = 0; i < 6; i++) s.add("place(" + p + ", " + i + ")", x.place(p, i));
  }

  private static void lookAtSheets(LineDispatch x, Seen s) {
    x.end(0);
    s.add("text()", Checks.tell(x, "place20 20;".repeat(6)));
    for (int k = 0; k < 4; k++) {
      for (int l = 0; l < 3; l++) {
        s.add("read(" + k + ", " + l + ", 40, 1)", x.read(k, l, 40, 1));
        s.add("torn()", x.torn());
      }
      for (int i = 0; i < 9; i++) {
        s.add("read(" + k + ", " + k % 3 + ", " + i + ", 1)", x.read(k, k % 3, i, 1));
        for (int w = 0; w < 3; w++) s.add("train(0, " + w + ")", x.train(0, w));
        s.add("drop(0)", x.drop(0));
      }
    }
  }

  /** Of each kind something: faults, images, sheets of each lane, bytes on the tape. */
  private static void fill(LineDispatch x) {
    Checks.tell(x, ";");
    x.keep(0);
    x.sheet(0, BYTES, 7);
    Checks.lay(x, 0, 0, 3, 2, 1, 2, 3, 1);
    x.sheet(1, SHORTS, 6);
    Checks.lay(x, 1, 0, 1, 1, 0, 0, 1);
    x.sheet(2, INTS, 9);
    Checks.lay(x, 2, 0, 1, 1, 0, 1, 1, 3, 0, 12);
    x.read(2, BYTES, 0, 1);
  }

  /** Train 0 is at place 1, 1 runs, 2 is done, 3 runs to where it goes. */
  private static void four(LineDispatch x) {
    Checks.tell(x, "place 9 9;section 3;place 9 9;section 2;place 9 8;section 4;place 9 12;train 0 3 4;train 3 0 5;train 1 2 6;");
    fill(x);
    x.let(2);
    x.tick(2);
    x.let(0);
    x.tick(1);
    x.let(1);
    x.tick(2);
    x.add(0, 1, 3);
    x.let(3);
    Checks.feedAll(x, TAPE);
  }

  private static void three(LineDispatch x) {
    four(x);
    x.drop(2);
  }

  private static void crossing(LineDispatch x) {
    Checks.tell(x, CROSSING);
    fill(x);
    Checks.feedAll(x, TAPE);
  }

  private static void crossingRuns(LineDispatch x) {
    crossing(x);
    x.let(0);
  }

  private static void crossingCame(LineDispatch x) {
    crossingRuns(x);
    x.tick(1);
  }

  private static void noPlaces(LineDispatch x) {
    fill(x);
    Checks.feedAll(x, TAPE);
  }

  private static void fullTape(LineDispatch x) {
    fill(x);
    Checks.feedAll(x, TAPE + " ".repeat(160 - TAPE.length()));
  }

  private static List<String> seen(Look look, Consumer<LineDispatch> start, Consumer<LineDispatch> more, String leftOut) {
    LineDispatch x = new LineDispatch();
    start.accept(x);
    more.accept(x);
    Seen s = new Seen();
    look.at(x, s);
    s.rows.removeIf(row -> !leftOut.isEmpty() && row.startsWith(leftOut));
    return s.rows;
  }

  private static void alike(String what, Consumer<LineDispatch> start, Consumer<LineDispatch> call, Consumer<LineDispatch> other,
      String leftOut) {
    for (Look look : LOOKS) {
      List<String> with = seen(look, start, call, leftOut);
      List<String> without = seen(look, start, other, leftOut);
      int differ = 0;
      for (int i = 0; i < with.size(); i++) {
        if (!with.get(i).equals(without.get(i)) && differ++ == 0) {
          System.out.println(what + " left " + with.get(i) + ", without it " + without.get(i));
        }
      }
      c.due(what + ", answers that differ", differ, 0);
    }
  }

  private static void refused(String what, Consumer<LineDispatch> start, int want, ToIntFunction<LineDispatch> call) {
    LineDispatch x = new LineDispatch();
    start.accept(x);
    c.due(what, call.applyAsInt(x), want);
    alike(what, start, call::applyAsInt, y -> { }, "");
  }

  private static void text() {
    c.sentence("what is refused changes nothing: feed, end");
    for (int b : new int[] {-1, 128, MIN, MAX}) refused("feed " + b, RefusedTest::four, BAD, x -> x.feed(b));
    refused("feed, full", RefusedTest::fullTape, FULL, x -> x.feed(';'));
    refused("feed, full and BAD", RefusedTest::fullTape, BAD, x -> x.feed(-1));
    for (int n : new int[] {-1, TAPE.length() + 1, MIN, MAX}) refused("end " + n, RefusedTest::four, BAD, x -> x.end(n));
    c.sentence("(but THE TAPE, as told); text: by a FAULT: that which was told stays");
    String[] texts = {".", ";", "place 0;", "train 1 1 1;", "section 1;", "train 0 1 1;", "place 1;place 1;train 0 1 2;",
        "place 2;place 1;place 1;train 0 2 2;"};
    for (int f = 1; f <= 8; f++) {
      String text = texts[f - 1];
      int fault = f;
      alike("text of FAULT " + f, RefusedTest::four, x -> {
        x.end(0);
        Checks.tell(x, text);
        c.due("fault()", x.fault(), fault);
      }, x -> x.end(0), "fault()");
    }
  }

  private static void asked() {
    c.sentence("what is refused changes nothing: calls that ask");
    for (int n : new int[] {-1, 9, MIN, MAX}) {
      refused("rule " + n, RefusedTest::four, BAD, x -> x.rule(n));
      refused("place " + n, RefusedTest::four, BAD, x -> x.place(n, 0));
      refused("place 0 " + n, RefusedTest::four, BAD, x -> x.place(0, n));
      refused("train " + n, RefusedTest::four, BAD, x -> x.train(n, 0));
      refused("train 0 " + n, RefusedTest::four, BAD, x -> x.train(0, n));
      refused("why " + n, RefusedTest::four, BAD, x -> x.why(n));
      refused("who " + n, RefusedTest::four, BAD, x -> x.who(n));
      refused("order " + n, RefusedTest::four, n < 0 ? BAD : NONE, x -> x.order(n));
      refused("reach " + n, RefusedTest::four, BAD, x -> x.reach(n));
      refused("plan " + n, RefusedTest::four, BAD, x -> x.plan(n, 0));
      refused("plan 0 " + n, RefusedTest::four, BAD, x -> x.plan(0, n));
      refused("journal " + n, RefusedTest::four, n < 0 ? BAD : NONE, x -> x.journal(n, 0));
      refused("journal 0 " + n, RefusedTest::four, BAD, x -> x.journal(0, n));
      refused("count " + n, RefusedTest::four, BAD, x -> x.count(n));
    }
    refused("best", RefusedTest::noPlaces, NONE, x -> x.best());
    c.sentence("plan: (nothing changes); nor does what only asks");
    alike("asking", RefusedTest::four, RefusedTest::askAll, x -> { }, "");
    alike("asking", RefusedTest::three, RefusedTest::askAll, x -> { }, "");
    alike("asking", RefusedTest::crossing, RefusedTest::askAll, x -> { }, "");
    alike("asking", RefusedTest::crossingRuns, RefusedTest::askAll, x -> { }, "");
    alike("asking", RefusedTest::noPlaces, RefusedTest::askAll, x -> { }, "");
  }

  private static void askAll(LineDispatch x) {
    x.fault();
    x.torn();
    x.best();
    for (int i = 0; i < 9; i++) {
      x.rule(i);
      x.why(i);
      x.who(i);
      x.order(i);
      x.reach(i);
      x.count(i);
      for (int k = 0; k < 4; k++) {
        x.plan(k, i);
        x.place(k, i);
        x.train(k, i);
        x.journal(k, i);
      }
    }
  }

  private static void done() {
    c.sentence("what is refused changes nothing: let, tick, send, drop");
    for (int n : new int[] {-1, 4, MIN, MAX}) {
      refused("let " + n, RefusedTest::four, BAD, x -> x.let(n));
      refused("drop " + n, RefusedTest::four, BAD, x -> x.drop(n));
      refused("send " + n, RefusedTest::four, BAD, x -> x.send(n));
    }
    refused("let, DONE", RefusedTest::four, STATE, x -> x.let(2));
    refused("let, RUNS", RefusedTest::four, STATE, x -> x.let(1));
    refused("let, RUNS to where it goes", RefusedTest::four, STATE, x -> x.let(3));
    refused("let, in the SECTION", RefusedTest::crossingRuns, STATE, x -> x.let(1));
    refused("let, not HELD", RefusedTest::crossing, STATE, x -> x.let(1));
    refused("let, not SAFE", RefusedTest::crossingCame, STATE, x -> x.let(1));
    refused("drop, RUNS", RefusedTest::four, STATE, x -> x.drop(1));
    refused("drop, RUNS to where it goes", RefusedTest::four, STATE, x -> x.drop(3));
    refused("send, none can", RefusedTest::noPlaces, 0, x -> x.send(2));
    for (int n : new int[] {0, -1, 61, MIN, MAX}) refused("tick " + n, RefusedTest::four, BAD, x -> x.tick(n));
    c.sentence("what is refused changes nothing: add, draw");
    int[][] bad = {{-1, 0, 1}, {4, 0, 1}, {0, -1, 1}, {0, 4, 1}, {2, 2, 1}, {0, 1, 0}, {0, 1, 21}};
    for (int[] b : bad) {
      refused("add, BAD", RefusedTest::three, BAD, x -> x.add(b[0], b[1], b[2]));
      refused("add, BAD, full", RefusedTest::four, BAD, x -> x.add(b[0], b[1], b[2]));
    }
    refused("add, FULL", RefusedTest::four, FULL, x -> x.add(0, 1, 1));
    refused("add, not HELD", RefusedTest::three, STATE, x -> x.add(1, 0, 10));
    refused("add, not SAFE", RefusedTest::three, STATE, x -> x.add(3, 0, 12));
    for (int n : new int[] {0, -1, 9, MIN, MAX}) refused("draw " + n, RefusedTest::three, BAD, x -> x.draw(1, n));
    refused("draw, no places", RefusedTest::noPlaces, STATE, x -> x.draw(1, 8));
    refused("draw, none may be", RefusedTest::four, 0, x -> x.draw(1, 8));
  }

  private static void stored() {
    c.sentence("what is refused changes nothing: keep, back");
    for (int k : new int[] {-1, 2, MIN, MAX}) {
      refused("keep " + k, RefusedTest::four, BAD, x -> x.keep(k));
      refused("back " + k, RefusedTest::four, BAD, x -> x.back(k));
    }
    refused("back, no image", RefusedTest::four, STATE, x -> x.back(1));
    c.sentence("what is refused changes nothing: sheet, lay");
    for (int k : new int[] {-1, 4, MIN, MAX}) {
      refused("sheet " + k, RefusedTest::four, BAD, x -> x.sheet(k, 0, 5));
      refused("sheet 0 " + k, RefusedTest::four, BAD, x -> x.sheet(0, k, 5));
      refused("lay " + k, RefusedTest::four, BAD, x -> x.lay(k, 0, 5));
      refused("lay on nothing " + k, RefusedTest::four, -11, x -> x.lay(3, k, 5));
    }
    for (int k = 0; k < 4; k++) {
      int it = k;
      refused("sheet, 41", RefusedTest::four, BAD, x -> x.sheet(it, 0, 41));
      refused("sheet, SIZE", RefusedTest::four, -14, x -> x.sheet(it, 0, -1));
    }
    refused("lay, INDEX", RefusedTest::four, -12, x -> x.lay(0, -1, 5));
    refused("lay, INDEX", RefusedTest::four, -12, x -> x.lay(0, 7, 5));
    refused("lay, INDEX", RefusedTest::four, -12, x -> x.lay(1, 6, 5));
    refused("lay, INDEX", RefusedTest::four, -12, x -> x.lay(2, 9, 5));
    c.sentence("what is refused changes nothing: read (then none came; one that is refused leaves torn())");
    for (int k : new int[] {-1, 4, MIN, MAX}) {
      refused("read " + k, RefusedTest::three, BAD, x -> x.read(k, 0, 0, 1));
      refused("read 1 " + k, RefusedTest::three, BAD, x -> x.read(1, k, 0, 1));
    }
    for (int n : new int[] {-1, 11, MIN, MAX}) refused("read times " + n, RefusedTest::three, BAD, x -> x.read(1, SHORTS, 0, n));
    refused("read, FULL at the first", RefusedTest::four, -20, x -> x.read(1, SHORTS, 0, 1));
    refused("read, BAD at the second", RefusedTest::three, -21, x -> x.read(1, SHORTS, 0, 2));
    refused("read, FULL at the second", RefusedTest::three, -21, x -> x.read(2, INTS, 0, 3));
    refused("read, not SAFE at the first", RefusedTest::three, -20, x -> x.read(2, INTS, 6, 1));
    c.sentence("read: what the machine refuses leaves all but torn() as it is");
    alike("read, NULL", RefusedTest::three, x -> c.due("none", x.read(3, 0, 0, 1), 0), x -> { }, "torn()");
    alike("read, CAST", RefusedTest::three, x -> c.due("none", x.read(1, INTS, 0, 1), 0), x -> { }, "torn()");
    alike("read, INDEX", RefusedTest::three, x -> c.due("none", x.read(1, SHORTS, 4, 1), 0), x -> { }, "torn()");
    alike("read, 0 times", RefusedTest::three, x -> c.due("none", x.read(1, SHORTS, 0, 0), 0), x -> { }, "torn()");
  }

  /** The objects that the calls are tried on are as this test says. */
  private static void starts() {
    LineDispatch x = new LineDispatch();
    four(x);
    c.sentence("the objects as they are tried");
    c.row("what the four do", t -> x.train(t, 4), 0, 1, 2, 1);
    c.row("rule", x::rule, 4, 4, 5, 2, 1, 4);
    c.row("count", x::count, 1, 8, TAPE.length(), 7, 18, 9);
    c.due("fault()", x.fault(), 2);
    c.due("torn()", x.torn(), Checks.CAST);
    x.drop(2);
    c.row("what the three do", t -> x.train(t, 4), 0, 1, 1, BAD);
    c.due("a fourth one may be", x.add(0, 1, 1), 4);
  }

  public static void main(String[] args) {
    starts();
    text();
    asked();
    done();
    stored();
    c.finish();
  }
}
