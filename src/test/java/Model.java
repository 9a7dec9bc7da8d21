import java.util.ArrayList;
import java.util.Arrays;
import java.util.HashSet;
import java.util.LinkedHashSet;
import java.util.List;
import java.util.Set;

/**
 * The document once more, written the slow way (sets of postures, the clock minute by minute, tracks given out by
 * trying all), so that the program can be held against it call by call.
 */
final class Model {
  static final int BAD = -1, STATE = -2, FULL = -3, NONE = -4;

  static final class Train {
    int from, to, length, at, when;
    boolean runs, done;

    Train copy() {
      Train c = new Train();
      c.from = from; c.to = to; c.length = length; c.at = at; c.when = when; c.runs = runs; c.done = done;
      return c;
    }

    int way() {
      return Integer.signum(to - from);
    }

    /** The place of the posture; -1: done. */
    int posture() {
      return at == to ? -1 : at;
    }
  }

  static final class World {
    List<List<Integer>> places = new ArrayList<>();
    List<Integer> minutes = new ArrayList<>();
    List<Train> trains = new ArrayList<>();
    int clock;
    List<int[]> journal = new ArrayList<>();

    World copy() {
      World c = new World();
      c.places = new ArrayList<>(places);
      c.minutes = new ArrayList<>(minutes);
      for (Train t : trains) c.trains.add(t.copy());
      c.clock = clock;
      for (int[] e : journal) c.journal.add(e.clone());
      return c;
    }

    List<Integer> posture() {
      List<Integer> p = new ArrayList<>();
      for (Train t : trains) p.add(t.posture());
      return p;
    }

    boolean holds(int place, List<Integer> lengths) {
      return seat(new ArrayList<>(places.get(place)), new ArrayList<>(lengths));
    }

    private static boolean seat(List<Integer> tracks, List<Integer> lengths) {
      if (lengths.isEmpty()) return true;
      int first = lengths.get(0);
      List<Integer> others = lengths.subList(1, lengths.size());
      for (int i = 0; i < tracks.size(); i++) {
        if (tracks.get(i) >= first) {
          List<Integer> rest = new ArrayList<>(tracks);
          rest.remove(i);
          if (seat(rest, others)) return true;
        }
      }
      return false;
    }

    List<Integer> lengthsAt(List<Integer> posture, int place) {
      List<Integer> l = new ArrayList<>();
      for (int i = 0; i < trains.size(); i++) if (posture.get(i) == place) l.add(trains.get(i).length);
      return l;
    }

    List<Integer> moved(List<Integer> posture, int i) {
      if (posture.get(i) < 0) return null;
      Train t = trains.get(i);
      int next = posture.get(i) + t.way();
      List<Integer> p = new ArrayList<>(posture);
      if (next == t.to) {
        p.set(i, -1);
        return p;
      }
      List<Integer> l = lengthsAt(posture, next);
      l.add(t.length);
      if (!holds(next, l)) return null;
      p.set(i, next);
      return p;
    }

    Set<List<Integer>> reached(List<Integer> start) {
      Set<List<Integer>> seen = new LinkedHashSet<>();
      List<List<Integer>> open = new ArrayList<>();
      seen.add(start);
      open.add(start);
      while (!open.isEmpty()) {
        List<Integer> p = open.remove(open.size() - 1);
        for (int i = 0; i < p.size(); i++) {
          List<Integer> q = moved(p, i);
          if (q != null && seen.add(q)) open.add(q);
        }
      }
      return seen;
    }

    boolean safe(List<Integer> start) {
      List<Integer> end = new ArrayList<>();
      for (int i = 0; i < start.size(); i++) end.add(-1);
      return reached(start).contains(end);
    }

    boolean canEnd(List<Integer> start, int i) {
      for (List<Integer> p : reached(start)) if (p.get(i) == -1) return true;
      return false;
    }

    List<Integer> oneByOne() {
      List<Integer> order = new ArrayList<>();
      List<Integer> p = posture();
      boolean again = true;
      while (again) {
        again = false;
        for (int i = 0; i < p.size() && !again; i++) {
          List<Integer> q = p.get(i) < 0 ? null : p;
          while (q != null && q.get(i) >= 0) q = moved(q, i);
          if (q != null) {
            order.add(i);
            p = q;
            again = true;
          }
        }
      }
      return order;
    }

    boolean plain() {
      int due = 0;
      for (int p : posture()) if (p >= 0) due++;
      return oneByOne().size() == due;
    }

    int sectionOf(int one, int other) {
      return Math.min(one, other);
    }

    int runner(int section) {
      for (int i = 0; i < trains.size(); i++) {
        Train t = trains.get(i);
        if (t.runs && sectionOf(t.at, t.at - t.way()) == section) return i;
      }
      return -1;
    }

    int why(int i) {
      Train t = trains.get(i);
      if (t.done) return 1;
      if (t.runs) return 2;
      if (runner(sectionOf(t.at, t.at + t.way())) >= 0) return 3;
      List<Integer> q = moved(posture(), i);
      if (q == null) return 4;
      return safe(q) ? 0 : 5;
    }

    int who(int i) {
      Train t = trains.get(i);
      int why = why(i);
      if (why == 3) return runner(sectionOf(t.at, t.at + t.way()));
      if (why == 4) {
        int first = posture().indexOf(t.at + t.way());
        return first < 0 ? NONE : first;
      }
      if (why == 5) {
        List<Integer> q = moved(posture(), i);
        for (int k = 0; k < trains.size(); k++) if (!canEnd(q, k)) return k;
      }
      return NONE;
    }

    int toRun(int i) {
      Train t = trains.get(i);
      int sum = 0;
      for (int p = t.at; p != t.to; p += t.way()) sum += minutes.get(sectionOf(p, p + t.way()));
      return sum;
    }

    int go(int i) {
      Train t = trains.get(i);
      journal.add(new int[] {clock, i, t.at});
      journal.sort((a, b) -> a[0] != b[0] ? a[0] - b[0] : a[1] - b[1]);
      while (journal.size() > 60) journal.remove(0);
      t.when = clock + minutes.get(sectionOf(t.at, t.at + t.way()));
      t.at += t.way();
      t.runs = true;
      return t.when;
    }

    int minute() {
      clock++;
      int came = 0;
      for (Train t : trains) {
        if (t.runs && t.when == clock) {
          t.runs = false;
          t.done = t.at == t.to;
          came++;
        }
      }
      return came;
    }

    int send(int rule) {
      int n = 0;
      while (true) {
        List<Integer> row = new ArrayList<>();
        for (int i = 0; i < trains.size(); i++) row.add(i);
        if (rule == 1) row.sort((a, b) -> toRun(a) - toRun(b));
        if (rule == 2) row.sort((a, b) -> toRun(b) - toRun(a));
        int pick = -1;
        for (int i : row) if (pick < 0 && why(i) == 0) pick = i;
        if (pick < 0) return n;
        go(pick);
        n++;
      }
    }

    int[] plan(int rule) {
      World w = copy();
      for (int k = 0; k < 1000; k++) {
        boolean all = true;
        for (Train t : w.trains) all &= t.done;
        if (all) break;
        w.send(rule);
        w.minute();
      }
      int last = 0, sum = 0;
      for (Train t : w.trains) {
        if (!t.done) throw new IllegalStateException("a plan that does not end");
        last = Math.max(last, t.when);
        sum += t.when;
      }
      return new int[] {last, sum};
    }

    int add(int from, int to, int length) {
      int n = places.size();
      if (from < 0 || from >= n || to < 0 || to >= n || from == to || length < 1 || length > 20) return BAD;
      if (trains.size() == 4) return FULL;
      List<Integer> l = lengthsAt(posture(), from);
      l.add(length);
      if (!holds(from, l)) return STATE;
      Train t = new Train();
      t.from = from; t.to = to; t.length = length; t.at = from;
      trains.add(t);
      if (!safe(posture())) {
        trains.remove(trains.size() - 1);
        return STATE;
      }
      return trains.size();
    }
  }

  World world = new World();
  final World[] images = new World[2];
  String tape = "";
  int fault, torn;
  final Object[] sheets = new Object[4];

  int feed(int c) {
    if (c < 0 || c > 127) return BAD;
    if (tape.length() == 160) return FULL;
    tape += (char) c;
    return tape.length();
  }

  int end(int n) {
    if (n < 0 || n > tape.length()) return BAD;
    int had = tape.length();
    tape = tape.substring(0, n);
    return had;
  }

  static final class Wrong extends RuntimeException {
    private static final long serialVersionUID = 1L;
    final int fault, at;

    Wrong(int fault, int at) {
      this.fault = fault;
      this.at = at;
    }
  }

  private int at;
  private String token;
  private int tokenAt;

  /** The next token; "" is the end. */
  private void next() {
    while (at < tape.length() && tape.charAt(at) == ' ') at++;
    tokenAt = at;
    String rest = tape.substring(at);
    if (rest.isEmpty()) {
      token = "";
      return;
    }
    java.util.regex.Matcher m = java.util.regex.Pattern.compile("[a-z]+|[0-9]+|;").matcher(rest);
    if (!m.lookingAt()) throw new Wrong(1, at);
    token = m.group();
    if (Character.isDigit(token.charAt(0)) && token.length() > 2) throw new Wrong(1, at);
    at += token.length();
  }

  private int number(int low, int high) {
    if (token.isEmpty() || !Character.isDigit(token.charAt(0))) throw new Wrong(2, tokenAt);
    int v = Integer.parseInt(token);
    if (v < low || v > high) throw new Wrong(3, tokenAt);
    return v;
  }

  private void sign() {
    if (!token.equals(";")) throw new Wrong(2, tokenAt);
  }

  private int parse(World w) {
    at = 0;
    int lines = 0;
    for (next(); !token.isEmpty(); next()) {
      switch (token) {
        case "place": {
          if (w.places.size() == 6) throw new Wrong(5, tokenAt);
          List<Integer> tracks = new ArrayList<>();
          next();
          tracks.add(number(1, 20));
          next();
          while (!token.equals(";") && tracks.size() < 3) {
            tracks.add(number(1, 20));
            next();
          }
          sign();
          tracks.sort((a, b) -> b - a);
          w.places.add(tracks);
          w.minutes.add(1);
          break;
        }
        case "section":
          if (w.places.isEmpty()) throw new Wrong(5, tokenAt);
          next();
          w.minutes.set(w.places.size() - 1, number(1, 9));
          next();
          sign();
          break;
        case "train": {
          if (w.trains.size() == 4) throw new Wrong(5, tokenAt);
          Train t = new Train();
          next();
          t.from = number(0, 5);
          t.at = t.from;
          next();
          t.to = number(0, 5);
          if (t.to == t.from) throw new Wrong(4, tokenAt);
          next();
          t.length = number(1, 20);
          next();
          sign();
          w.trains.add(t);
          break;
        }
        default:
          throw new Wrong(2, tokenAt);
      }
      lines++;
    }
    for (Train t : w.trains)
      if (t.from >= w.places.size() || t.to >= w.places.size()) throw new Wrong(6, tape.length());
    for (int p = 0; p < w.places.size(); p++)
      if (!w.holds(p, w.lengthsAt(w.posture(), p))) throw new Wrong(7, tape.length());
    if (!w.safe(w.posture())) throw new Wrong(8, tape.length());
    return lines;
  }

  int text() {
    try {
      World w = new World();
      int lines = parse(w);
      world = w;
      fault = 0;
      images[0] = null;
      images[1] = null;
      return lines;
    } catch (Wrong e) {
      fault = e.fault;
      return -10 - e.at;
    } finally {
      tape = "";
    }
  }

  int fault() {
    return fault;
  }

  int rule(int what) {
    int n = 0;
    switch (what) {
      case 0: return world.places.size();
      case 1: return world.trains.size();
      case 2: return world.clock;
      case 3: for (Train t : world.trains) if (t.runs) n++; return n;
      case 4: for (Train t : world.trains) if (t.done) n++; return n;
      case 5: return world.journal.size();
      case 6: return world.plain() ? 1 : 0;
      case 7: for (Train t : world.trains) n += Math.abs(t.to - t.at); return n;
      case 8: for (int i = 0; i < world.trains.size(); i++) if (world.why(i) == 0) n++; return n;
      default: return BAD;
    }
  }

  int place(int p, int what) {
    if (p < 0 || p >= world.places.size() || what < 0 || what > 5) return BAD;
    List<Integer> tracks = world.places.get(p);
    if (what == 0) return tracks.size();
    if (what <= 3) return what <= tracks.size() ? tracks.get(what - 1) : NONE;
    if (what == 4) return world.lengthsAt(world.posture(), p).size();
    return p + 1 == world.places.size() ? NONE : world.minutes.get(p);
  }

  private boolean noTrain(int t) {
    return t < 0 || t >= world.trains.size();
  }

  int train(int i, int what) {
    if (noTrain(i) || what < 0 || what > 6) return BAD;
    Train t = world.trains.get(i);
    switch (what) {
      case 0: return t.from;
      case 1: return t.to;
      case 2: return t.length;
      case 3: return t.posture() < 0 ? NONE : t.posture();
      case 4: return t.done ? 2 : t.runs ? 1 : 0;
      case 5: return t.done || t.runs ? t.when : NONE;
      default: return world.toRun(i);
    }
  }

  int why(int t) {
    return noTrain(t) ? BAD : world.why(t);
  }

  int who(int t) {
    return noTrain(t) ? BAD : world.who(t);
  }

  int order(int i) {
    if (i < 0) return BAD;
    List<Integer> order = world.oneByOne();
    return i < order.size() ? order.get(i) : NONE;
  }

  int reach(int what) {
    if (what != 0 && what != 1) return BAD;
    Set<List<Integer>> all = world.reached(world.posture());
    if (what == 0) return all.size();
    int n = 0;
    for (List<Integer> p : new HashSet<>(all)) if (world.safe(p)) n++;
    return n;
  }

  int plan(int rule, int what) {
    if (rule < 0 || rule > 2 || what < 0 || what > 1) return BAD;
    return world.plan(rule)[what];
  }

  int best() {
    if (world.trains.isEmpty()) return NONE;
    int[] sums = {world.plan(0)[1], world.plan(1)[1], world.plan(2)[1]};
    int least = Arrays.stream(sums).min().getAsInt();
    return sums[0] == least ? 0 : sums[1] == least ? 1 : 2;
  }

  int let(int t) {
    if (noTrain(t)) return BAD;
    return world.why(t) != 0 ? STATE : world.go(t);
  }

  int tick(int n) {
    if (n < 1 || n > 60) return BAD;
    int came = 0;
    for (int i = 0; i < n; i++) came += world.minute();
    return came;
  }

  int send(int rule) {
    return rule < 0 || rule > 2 ? BAD : world.send(rule);
  }

  int journal(int i, int what) {
    if (i < 0 || what < 0 || what > 2) return BAD;
    return i < world.journal.size() ? world.journal.get(i)[what] : NONE;
  }

  int add(int from, int to, int length) {
    return world.add(from, to, length);
  }

  int drop(int t) {
    if (noTrain(t)) return BAD;
    if (world.trains.get(t).runs) return STATE;
    world.trains.remove(t);
    world.journal.removeIf(e -> e[1] == t);
    for (int[] e : world.journal) if (e[1] > t) e[1]--;
    return world.trains.size();
  }

  int draw(int seed, int n) {
    if (n < 1 || n > 8) return BAD;
    int p = world.places.size();
    if (p == 0) return STATE;
    int came = 0;
    long s = seed;
    for (int i = 0; i < n; i++) {
      s = (s * 1103515245L + 12345L) & 0xFFFFFFFFL;
      long got = s / 65536 % 32768;
      if (world.add((int) (got % p), (int) (got / 8 % p), (int) (got / 64 % 6 + 1)) > 0) came++;
    }
    return came;
  }

  int keep(int k) {
    if (k != 0 && k != 1) return BAD;
    int had = images[k] == null ? 0 : 1;
    images[k] = world.copy();
    return had;
  }

  int back(int k) {
    if (k != 0 && k != 1) return BAD;
    if (images[k] == null) return STATE;
    world = images[k].copy();
    return world.trains.size();
  }

  int sheet(int k, int lane, int n) {
    if (k < 0 || k > 3 || lane < 0 || lane > 2 || n > 40) return BAD;
    try {
      sheets[k] = lane == 0 ? new byte[n] : lane == 1 ? new short[n] : (Object) new int[n];
      return 1;
    } catch (NegativeArraySizeException e) {
      return -14;
    }
  }

  int lay(int k, int i, int v) {
    if (k < 0 || k > 3) return BAD;
    Object s = sheets[k];
    try {
      if (s instanceof byte[] b) b[i] = (byte) v;
      else if (s instanceof short[] h) h[i] = (short) v;
      else ((int[]) s)[i] = v;
      return 1;
    } catch (NullPointerException e) {
      return -11;
    } catch (ArrayIndexOutOfBoundsException e) {
      return -12;
    }
  }

  private static int cell(Object s, int lane, int i) {
    return lane == 0 ? ((byte[]) s)[i] : lane == 1 ? ((short[]) s)[i] : ((int[]) s)[i];
  }

  int read(int k, int lane, int f, int n) {
    if (k < 0 || k > 3 || lane < 0 || lane > 2 || n < 0 || n > 10) return BAD;
    World before = world.copy();
    int came = 0, found = 0;
    try {
      for (; came < n; came++) {
        int c = f + 3 * came;
        int from = cell(sheets[k], lane, c), to = cell(sheets[k], lane, c + 1), length = cell(sheets[k], lane, c + 2);
        if (world.add(from, to, length) < 0) {
          world = before;
          return -20 - came;
        }
      }
    } catch (NullPointerException e) {
      found = 1;
    } catch (ArrayIndexOutOfBoundsException e) {
      found = 2;
    } catch (ClassCastException e) {
      found = 3;
    }
    torn = found;
    return came;
  }

  int torn() {
    return torn;
  }

  int count(int what) {
    int n = 0;
    switch (what) {
      case 0: return (images[0] == null ? 0 : 1) + (images[1] == null ? 0 : 1);
      case 1: for (List<Integer> t : world.places) n += t.size(); return n;
      case 2: return tape.length();
      case 3: return sheets[0] == null ? NONE : java.lang.reflect.Array.getLength(sheets[0]);
      case 4: for (Train t : world.trains) n += t.length; return n;
      case 5: for (int i = 0; i + 1 < world.places.size(); i++) n += world.minutes.get(i); return n;
      default: return BAD;
    }
  }
}
