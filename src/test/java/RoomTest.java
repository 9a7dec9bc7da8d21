import java.lang.reflect.Array;
import java.lang.reflect.Field;
import java.lang.reflect.Modifier;
import java.util.IdentityHashMap;
import java.util.Map;

/** All calls of one run live in one room: what an object takes of it, and that it keeps no more when it is used. */
public final class RoomTest {
  private static final int MOST_OBJECTS = 200, MOST_CELLS = 10_000;
  private static final int CALLS = 512;

  private final Map<Object, Object> seen = new IdentityHashMap<>();
  private long cells;
  private int failed;
  // what the calls answer is not looked at here
  private long sum;

  private void check(boolean right, String what) {
    if (!right) {
      failed++;
      System.out.println("not as due: " + what);
    }
  }

  /** Every object and array that can be reached, with its fields and elements. */
  private void walk(Object o) throws IllegalAccessException {
    if (o == null || seen.put(o, o) != null) return;
    Class<?> c = o.getClass();
    if (c.isArray()) {
      cells += Array.getLength(o);
      if (!c.getComponentType().isPrimitive()) for (Object part : (Object[]) o) walk(part);
      return;
    }
    check(c.getName().startsWith("LineDispatch"), "an object of " + c.getName());
    for (Field f : c.getDeclaredFields()) {
      if (Modifier.isStatic(f.getModifiers())) continue;
      cells++;
      f.setAccessible(true);
      if (!f.getType().isPrimitive()) walk(f.get(o));
    }
  }

  private void size() throws IllegalAccessException {
    LineDispatch x = new LineDispatch();
    walk(x);
    int objects = seen.size();
    long before = cells;
    check(objects <= MOST_OBJECTS && cells <= MOST_CELLS, "an object takes " + objects + " objects, " + cells + " fields and elements");
    for (int seed = 1; seed < 40; seed++) useAll(x, seed);
    useDearest(x);
    seen.clear();
    cells = 0;
    walk(x);
    check(seen.size() == objects && cells == before, "used it takes " + seen.size() + " objects, " + cells + " fields and elements");
    System.out.println("RoomTest: an object takes " + objects + " objects and arrays, " + cells + " fields and elements");
  }

  private static final byte[] TEXT =
      "place 9 9;section 2;place 3 9;section 5;place 9;place 8 8 8;train 0 3 4;train 3 0 4;train 2 0 3;".getBytes();

  private void tell(LineDispatch x) {
    for (byte c : TEXT) sum += x.feed(c);
    sum += x.text() + x.fault();
  }

  /** Calls of each kind, taken and refused. */
  private void useAll(LineDispatch x, int seed) {
    tell(x);
    sum += x.feed(seed) + x.end(1) + x.feed(-1) + x.end(-1) + x.text() + x.fault();
    for (int i = -1; i < 10; i++) sum += x.rule(i) + x.place(1, i) + x.train(0, i) + x.count(i) + x.order(i);
    for (int i = -1; i < 4; i++) sum += x.why(i) + x.who(i) + x.reach(i) + x.plan(i, i & 1) + x.best();
    sum += x.keep(0) + x.keep(2) + x.back(1) + x.draw(seed, 8) + x.draw(seed, 9);
    for (int i = 0; i < 12; i++) sum += x.send((seed + i) % 3) + x.let(i % 5) + x.tick(i) + x.why(i % 4) + x.who(i % 4);
    for (int i = -1; i < 12; i++) sum += x.journal(i, i % 3);
    sum += x.drop(3) + x.drop(0) + x.drop(9) + x.back(0) + x.add(3, 0, 8) + x.add(0, 0, 1) + x.drop(2);
    for (int lane = 0; lane < 3; lane++) {
      sum += x.sheet(lane, lane, 40) + x.sheet(lane, lane, -1) + x.sheet(lane, lane, 41);
      for (int i = -1; i < 10; i++) sum += x.lay(lane, i, i == 0 ? 0 : 3);
      sum += x.read(lane, lane, 0, 1) + x.read(lane, lane, 38, 2) + x.read(lane, 0, 0, 2) + x.read(3, 0, 0, 1) + x.torn();
      sum += x.read(lane, lane, 0, 0) + x.read(lane, lane, 3, 10) + x.torn();
    }
  }

  /** The dearest calls, as often as an object may be called. */
  private void useDearest(LineDispatch x) {
    for (int i = 0; i < CALLS; i++) sum += x.draw(i * 7919, 8) + x.drop(i % 4) + x.reach(1) + x.best();
  }

  public static void main(String[] args) throws Exception {
    RoomTest t = new RoomTest();
    t.size();
    System.out.println("RoomTest: " + (t.failed == 0 ? "used it takes no more" : t.failed + " not as due"));
    if (t.failed > 0) System.exit(1);
  }
}
