/** Each sentence of the document about sheets and counts that names a bound: promises 24 to 28. */
public final class SheetBoundsTest {
  private static final Checks c = new Checks("SheetBoundsTest");
  private static final int BAD = Checks.BAD, NONE = Checks.NONE, MIN = Checks.MIN, MAX = Checks.MAX;
  private static final int NULL = Checks.NULL, INDEX = Checks.INDEX, CAST = Checks.CAST, SIZE = Checks.SIZE;
  private static final int BYTES = 0, SHORTS = 1, INTS = 2;

  private static final String WIDE = "place 20 20 20;place 20 20 20;place 20 20 20;";

  private static void sheet() {
    c.sentence("sheet: A SHEET is a new row of CELLS 0: 1. BAD: also n above 40");
    LineDispatch x = new LineDispatch();
    c.bad("k", k -> x.sheet(k, 0, 1), -1, 4, MIN, MAX);
    c.bad("lane", l -> x.sheet(0, l, 1), -1, 3, MIN, MAX);
    c.bad("n", n -> x.sheet(0, 0, n), 41, 42, MAX);
    c.due("nothing still", x.count(3), NONE);
    for (int k = 0; k < 4; k++) for (int l = 0; l < 3; l++) c.due("sheet " + k + ", lane " + l, x.sheet(k, l, 1), 1);
    c.sentence("SHEETS with 0 to 40 CELLS, or nothing (at first)");
    for (int n = 0; n <= 40; n++) {
      c.due("of " + n + " cells", x.sheet(0, n % 3, n), 1);
      c.due("so many", x.count(3), n);
      c.due("one behind the last", x.lay(0, n, 1), -10 - INDEX);
      c.due("the last", x.lay(0, n - 1, 1), n == 0 ? -10 - INDEX : 1);
    }
    c.sentence("sheet: -14 (SIZE): n below 0");
    for (int n : new int[] {-1, -2, -40, -41, MIN}) c.due("n " + n, x.sheet(0, 0, n), -10 - SIZE);
    c.due("the row stays", x.count(3), 40);
    c.sentence("sheet: BAD, -14: the first that fits");
    c.due("k", x.sheet(4, 0, -1), BAD);
    c.due("k", x.sheet(-1, 0, -1), BAD);
    c.due("lane", x.sheet(0, 3, -1), BAD);
    c.due("lane", x.sheet(0, -1, MIN), BAD);
  }

  private static void newCells() {
    c.sentence("sheet: a new row of CELLS 0");
    for (int i = 0; i < 40; i++) {
      LineDispatch x = c.told(WIDE);
      x.sheet(2, INTS, 40);
      for (int k = 0; k < 40; k++) x.lay(2, k, 1);
      x.sheet(2, INTS, 40);
      c.due("cell " + i, isZero(x, 2, i), 1);
    }
    LineDispatch x = c.told(WIDE);
    x.sheet(1, SHORTS, 6);
    Checks.lay(x, 1, 1, 2, 3, 1, 2, 3);
    x.sheet(1, SHORTS, 3);
    x.sheet(1, SHORTS, 6);
    c.due("what a shorter row left out is 0, too", x.read(1, SHORTS, 3, 1), -20);
    c.due("as is the rest", x.read(1, SHORTS, 0, 1), -20);
  }

  /** Whether a cell is 0, seen from how a train is read of it and of two that are laid beside it. */
  private static int isZero(LineDispatch x, int k, int i) {
    if (i < 38) {
      x.lay(k, i + 1, 1);
      x.lay(k, i + 2, 1);
      return x.read(k, INTS, i, 1) == 1 && x.train(0, 0) == 0 ? 1 : 0;
    }
    x.lay(k, 37, 1);
    if (i == 38) {
      x.lay(k, 39, 1);
      return x.read(k, INTS, 37, 1) == 1 && x.train(0, 1) == 0 ? 1 : 0;
    }
    x.lay(k, 38, 0);
    return x.read(k, INTS, 37, 1) == -20 ? 1 : 0;
  }

  private static void lay() {
    c.sentence("lay: BAD: k; -10 less the FAULT: NULL, INDEX");
    LineDispatch x = c.told(WIDE);
    c.bad("k", k -> x.lay(k, 0, 1), -1, 4, MIN, MAX);
    c.bad("k, ahead of INDEX", k -> x.lay(k, -1, 1), -1, 4);
    for (int k = 0; k < 4; k++) {
      for (int i : new int[] {0, -1, 39, 40, MIN, MAX}) c.due("NULL, cell " + i, x.lay(k, i, 1), -10 - NULL);
    }
    for (int k = 0; k < 4; k++) {
      x.sheet(k, k % 3, 5);
      for (int i = 0; i < 5; i++) c.due("cell " + i, x.lay(k, i, 1), 1);
      for (int i : new int[] {-1, 5, 6, 39, 40, MIN, MAX}) c.due("INDEX, cell " + i, x.lay(k, i, 1), -10 - INDEX);
    }
    x.sheet(0, BYTES, 0);
    c.due("INDEX of no cells", x.lay(0, 0, 1), -10 - INDEX);
    x.sheet(0, BYTES, 40);
    c.due("the last of 40", x.lay(0, 39, 1), 1);
    c.due("INDEX, the one behind", x.lay(0, 40, 1), -10 - INDEX);
  }

  private static void lowestBits() {
    c.sentence("lay: CELL i of a SHEET becomes v (its lowest bits); BYTES (lane 0), SHORTS (1), INTS (2), all with a sign");
    int[] values = {7, 263, -249, 65543, -65529, 256 * 128 + 7, 0x7FFFFF07, 0x7FFF0007, 0x80000007, -7, 249, 65529, 135, 32775};
    for (int lane = 0; lane < 3; lane++) {
      for (int v : values) {
        int cell = lane == BYTES ? (byte) v : lane == SHORTS ? (short) v : v;
        LineDispatch x = c.told(WIDE);
        x.sheet(3, lane, 3);
        Checks.lay(x, 3, 0, 1);
        c.due("lay " + v, x.lay(3, 2, v), 1);
        c.due("as a length, lane " + lane + " of " + v, x.read(3, lane, 0, 1), cell == 7 ? 1 : -20);
        c.due("the train's, lane " + lane + " of " + v, x.train(0, 2), cell == 7 ? 7 : BAD);
      }
      LineDispatch y = c.told(WIDE);
      y.sheet(3, lane, 3);
      Checks.lay(y, 3, 0, 1, 3);
      c.due("0 of lowest bits, lane " + lane, y.lay(3, 0, 256), 1);
      c.due("from, lane " + lane, y.read(3, lane, 0, 1), lane == BYTES ? 1 : -20);
      y.lay(3, 0, 65536);
      c.due("from again, lane " + lane, y.read(3, lane, 0, 1), lane == INTS ? -20 : 1);
    }
  }

  private static LineDispatch rows(int lane, int size) {
    LineDispatch x = c.told(WIDE);
    x.sheet(0, lane, size);
    for (int i = 0; i < size; i += 3) {
      x.lay(0, i, i / 3 % 2);
      x.lay(0, i + 1, 2);
      x.lay(0, i + 2, i / 3 + 1);
    }
    return x;
  }

  private static void read() {
    c.sentence("read: BAD: k, lane, n");
    LineDispatch x = rows(BYTES, 40);
    c.bad("k", k -> x.read(k, 0, 0, 1), -1, 4, MIN, MAX);
    c.bad("lane", l -> x.read(0, l, 0, 1), -1, 3, MIN, MAX);
    c.bad("n", n -> x.read(0, 0, 0, n), -1, 11, MIN, MAX);
    c.bad("k, of n 0", k -> x.read(k, 0, 0, 0), -1, 4);
    c.bad("lane, of n 0", l -> x.read(0, l, 0, 0), -1, 3);
    c.bad("n, of nothing", n -> x.read(1, 0, 0, n), -1, 11);
    c.due("nothing came", x.rule(1), 0);
    c.sentence("read: n (0 to 10; of 0 nothing is read); of n 0: 0, no FAULT, whatever the SHEET is");
    for (int f : new int[] {0, -1, 40, MIN, MAX}) {
      x.read(1, 0, 0, 1);
      c.due("of nothing", x.read(1, 0, f, 0), 0);
      c.due("no FAULT", x.torn(), 0);
      c.due("of another lane", x.read(0, 1, f, 0), 0);
      c.due("no FAULT then", x.torn(), 0);
      c.due("of its lane", x.read(0, 0, f, 0), 0);
    }
    c.sentence("read: three CELLS each from CELL f on, one behind another as by add(): how many came");
    for (int lane = 0; lane < 3; lane++) {
      for (int n = 1; n <= 4; n++) {
        LineDispatch y = rows(lane, 40);
        c.due(n + " of lane " + lane, y.read(0, lane, 0, n), n);
        c.due("no FAULT", y.torn(), 0);
        for (int t = 0; t < n; t++) {
          int it = t;
          c.row("train " + t, i -> y.train(it, i), t % 2, 2, t + 1, t % 2, 0, NONE, 2 - t % 2);
        }
        c.due("no more", y.rule(1), n);
      }
    }
    LineDispatch z = rows(SHORTS, 40);
    c.due("from cell 6 on", z.read(0, SHORTS, 6, 2), 2);
    c.due("the third's length", z.train(0, 2), 3);
    c.due("the fourth's", z.train(1, 2), 4);
  }

  private static void machine() {
    c.sentence("read: What the machine refuses: those that were whole ahead came (its FAULT is asked by torn())");
    torn("NULL", c.told(WIDE), 0, BYTES, 0, 1, 0, NULL);
    torn("NULL ahead of INDEX", c.told(WIDE), 3, INTS, -1, 10, 0, NULL);
    for (int lane = 0; lane < 3; lane++) {
      for (int other = 0; other < 3; other++) {
        torn("lane " + lane + " as " + other, rows(lane, 6), 0, other, 0, 1, lane == other ? 1 : 0, lane == other ? 0 : CAST);
        torn("CAST ahead of INDEX, " + lane + " as " + other, rows(lane, 6), 0, other, 9, 1, 0, lane == other ? INDEX : CAST);
      }
      torn("CAST of no cells", rows(lane, 0), 0, (lane + 1) % 3, 0, 1, 0, CAST);
      torn("INDEX of no cells", rows(lane, 0), 0, lane, 0, 1, 0, INDEX);
      torn("INDEX of two cells", rows(lane, 2), 0, lane, 0, 1, 0, INDEX);
      torn("three cells", rows(lane, 3), 0, lane, 0, 1, 1, 0);
    }
    for (int f : new int[] {-1, -2, -3, -4, MIN, MIN + 1, 38, 39, 40, 41, MAX, MAX - 1, MAX - 2}) {
      torn("INDEX from cell " + f, rows(INTS, 40), 0, INTS, f, 1, 0, INDEX);
      torn("INDEX from cell " + f + ", ten", rows(INTS, 40), 0, INTS, f, 10, 0, INDEX);
    }
    torn("the last three", rows(INTS, 39), 0, INTS, 36, 1, 1, 0);
    torn("the last three and more", rows(INTS, 39), 0, INTS, 36, 2, 1, INDEX);
    torn("one whole, two cells are left", rows(INTS, 5), 0, INTS, 0, 2, 1, INDEX);
    torn("one whole, one cell is left", rows(INTS, 4), 0, INTS, 0, 10, 1, INDEX);
    torn("four whole", rows(INTS, 12), 0, INTS, 0, 10, 4, INDEX);
    torn("three whole", rows(INTS, 12), 0, INTS, 3, 4, 3, INDEX);
  }

  private static void torn(String what, LineDispatch x, int k, int lane, int f, int n, int came, int fault) {
    c.due(what, x.read(k, lane, f, n), came);
    c.due(what + ": trains", x.rule(1), came);
    c.due(what + ": torn()", x.torn(), fault);
  }

  private static void refusedByAdd() {
    c.sentence("read: -20 less i (from 0 on): the i-th, whole, is refused by add() (in any way): then none came; the first met");
    int[][] bad = {{3, 0, 1}, {0, 3, 1}, {-1, 0, 1}, {0, -1, 1}, {1, 1, 1}, {0, 1, 0}, {0, 1, 21}};
    for (int[] b : bad) {
      for (int i = 0; i < 3; i++) {
        LineDispatch x = rows(INTS, 9);
        for (int k = 0; k < 3; k++) x.lay(0, 3 * i + k, b[k]);
        c.due("BAD at " + i, x.read(0, INTS, 0, 10), -20 - i);
        c.due("none came", x.rule(1), 0);
      }
    }
    LineDispatch full = rows(SHORTS, 40);
    c.due("FULL at the fifth", full.read(0, SHORTS, 0, 10), -24);
    c.due("none came", full.rule(1), 0);
    full.add(2, 0, 20);
    c.due("FULL at the fourth", full.read(0, SHORTS, 0, 10), -23);
    c.due("only the one that was there", full.rule(1), 1);
    c.due("as it was", full.train(0, 2), 20);
    c.due("three may be", full.read(0, SHORTS, 0, 3), 3);
    c.due("FULL at the first", full.read(0, SHORTS, 0, 1), -20);
    LineDispatch state = c.told("place 9;place 9;place 9;place 9;");
    state.sheet(0, BYTES, 9);
    Checks.lay(state, 0, 1, 3, 1, 2, 0, 1, 0, 3, 1);
    c.due("STATE: not SAFE", state.read(0, BYTES, 0, 3), -21);
    c.due("none came", state.rule(1), 0);
    state.lay(0, 5, 10);
    c.due("STATE: not HELD", state.read(0, BYTES, 0, 3), -21);
    c.due("the first alone", state.read(0, BYTES, 0, 1), 1);
    LineDispatch first = rows(INTS, 5);
    first.lay(0, 2, 0);
    c.due("refused ahead of INDEX", first.read(0, INTS, 0, 2), -20);
    first.lay(0, 2, 1);
    c.due("INDEX ahead of nothing", first.read(0, INTS, 0, 2), 1);
  }

  private static void torn() {
    c.sentence("torn: The FAULT of the latest read() that answered 0 or more; 0 (one that is refused leaves it)");
    LineDispatch x = rows(BYTES, 6);
    c.due("none yet", x.torn(), 0);
    x.lay(0, 2, 0);
    c.due("refused", x.read(0, BYTES, 0, 1), -20);
    c.due("none still", x.torn(), 0);
    int[][] reads = {{3, 0, 0, NULL}, {0, 1, 0, CAST}, {0, 0, 5, INDEX}};
    for (int[] r : reads) {
      x.read(r[0], r[1], r[2], 1);
      c.due("FAULT " + r[3], x.torn(), r[3]);
      c.due("refused by add()", x.read(0, BYTES, 0, 1), -20);
      c.due("leaves " + r[3], x.torn(), r[3]);
      c.due("BAD", x.read(4, BYTES, 0, 1), BAD);
      c.due("BAD", x.read(0, 3, 0, 1), BAD);
      c.due("BAD", x.read(0, BYTES, 0, 11), BAD);
      c.due("leaves it, too, " + r[3], x.torn(), r[3]);
      x.lay(0, 99, 1);
      x.lay(3, 0, 1);
      x.sheet(0, 0, -1);
      Checks.tell(x, ".");
      c.due("is not of other calls, " + r[3], x.torn(), r[3]);
    }
    c.due("one that came", x.read(0, BYTES, 3, 1), 1);
    c.due("0 then", x.torn(), 0);
    x.read(3, 0, 0, 1);
    c.due("NULL", x.torn(), NULL);
    c.due("of n 0", x.read(3, 0, 0, 0), 0);
    c.due("0 again", x.torn(), 0);
    x.sheet(0, BYTES, 4);
    Checks.lay(x, 0, 0, 1, 1);
    c.due("one whole ahead", x.read(0, BYTES, 0, 2), 1);
    c.due("INDEX", x.torn(), INDEX);
  }

  private static void count() {
    c.sentence("count: BAD");
    LineDispatch x = c.told("place 9 9 9;section 2;place 9;section 9;place 9 9;section 4;train 0 1 3;train 2 0 9;");
    c.bad("count", x::count, -1, 6, MIN, MAX);
    c.sentence("count: 0 IMAGES, 1 TRACKS of all PLACES, 2 bytes on THE TAPE, 3 CELLS of SHEET 0 (NONE: nothing), 4 LENGTHS of all TRAINS, 5 MINUTES of all SECTIONS (but that behind the last PLACE)");
    c.row("count", x::count, 0, 6, 0, NONE, 12, 11);
    x.sheet(1, 0, 8);
    c.due("sheet 0 is nothing still", x.count(3), NONE);
    x.sheet(0, 0, 0);
    c.due("no cells are not nothing", x.count(3), 0);
    x.sheet(0, 2, 40);
    x.keep(1);
    for (int i = 0; i < 160; i++) x.feed(32);
    x.let(0);
    c.row("the most, count", x::count, 1, 6, 160, 40, 12, 11);
    x.tick(2);
    x.keep(0);
    c.row("DONE counts, too", x::count, 2, 6, 160, 40, 12, 11);
    x.drop(0);
    c.due("what is gone does not", x.count(4), 9);
    LineDispatch none = new LineDispatch();
    c.row("of nothing, count", none::count, 0, 0, 0, NONE, 0, 0);
    c.due("one place has no section", c.told("place 9;section 9;").count(5), 0);
    c.due("two have one", c.told("place 9;section 9;place 9;section 9;").count(5), 9);
    c.due("six of three tracks", c.told("place 9 9 9;section 9;".repeat(6)).count(1), 18);
    c.due("and five sections", c.told("place 9 9 9;section 9;".repeat(6)).count(5), 45);
  }

  public static void main(String[] args) {
    sheet();
    newCells();
    lay();
    lowestBits();
    read();
    machine();
    refusedByAdd();
    torn();
    count();
    c.finish();
  }
}
