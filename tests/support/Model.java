import java.awt.geom.Line2D;
import java.util.ArrayList;
import java.util.Arrays;
import java.util.Collections;
import java.util.List;
import java.util.TreeSet;

/** The document once more, plain and slow, by other ways than the judge's: simplex, elimination, angles. */
final class Model {
  static final long NO = GraspJudge.NO_NUMBER;
  private static final int[][] TILTS = {{1, 0}, {1, 1}, {0, 1}, {-1, 1}, {-1, 0}, {-1, -1}, {0, -1}, {1, -1}};

  private List<int[]> corners = new ArrayList<>(List.of(at(0, 0), at(4, 0), at(4, 4), at(0, 4)));
  private List<int[]> fingers = new ArrayList<>();
  private int m = 1;
  private int q = 1;
  private int[] centre = {2, 2};
  private int x = 1;
  private List<int[]> past = new ArrayList<>();
  private List<long[]> loads = new ArrayList<>();
  private String tape = "";
  private Model kept;

  private static int[] at(int x, int y) {
    return new int[] {x, y};
  }

  private void takeOver(Model from) {
    corners = new ArrayList<>(from.corners);
    fingers = new ArrayList<>(from.fingers);
    m = from.m;
    q = from.q;
    centre = from.centre;
    x = from.x;
    past = new ArrayList<>(from.past);
    loads = new ArrayList<>(from.loads);
  }

  // ---- tape and texts ----

  int feed(int... words) {
    if (tape.length() + 20 > 240) return -1;
    StringBuilder more = new StringBuilder(tape);
    for (int word : words) for (int i = 3; i >= 0; i--) more.append((char) (word >>> (8 * i) & 255));
    tape = more.toString();
    return tape.length();
  }

  private String take(int n, int least, int most) {
    if (n < least || n > most || n > tape.length()) return null;
    String text = tape.substring(0, n);
    tape = "";
    return text;
  }

  int plate(int n) {
    String text = take(n, 1, 60);
    if (text == null) return -1;
    int fault = Texts.plateFault(text);
    if (fault != 0) return fault;
    List<int[]> told = new ArrayList<>();
    for (String corner : text.split(";")) told.add(at(corner.charAt(0) - '0', corner.charAt(2) - '0'));
    if (!isPlate(told)) return -5000 - n;
    corners = told;
    fingers.clear();
    past.clear();
    centre = at(2, 2);
    return told.size();
  }

  static boolean isPlate(List<int[]> c) {
    int n = c.size();
    if (n < 3 || n > 8 || area(c) <= 0) return false;
    for (int i = 0; i < n; i++) {
      int[] a = c.get(i);
      int[] b = c.get((i + 1) % n);
      int[] d = c.get((i + 2) % n);
      if ((b[0] - a[0]) * (d[1] - b[1]) == (b[1] - a[1]) * (d[0] - b[0])) return false;
      for (int j = 0; j < n; j++) {
        if (j == i || j == (i + 1) % n || i == (j + 1) % n) continue;
        int[] e = c.get(j);
        int[] f = c.get((j + 1) % n);
        if (Line2D.linesIntersect(a[0], a[1], b[0], b[1], e[0], e[1], f[0], f[1])) return false;
      }
    }
    return true;
  }

  static int area(List<int[]> c) {
    int twice = 0;
    for (int i = 0; i < c.size(); i++) {
      int[] a = c.get(i);
      int[] b = c.get((i + 1) % c.size());
      twice += (a[0] - b[0]) * (a[1] + b[1]);
    }
    return twice;
  }

  int orders(int n) {
    String text = take(n, 1, 120);
    if (text == null) return -1;
    int fault = Texts.ordersFault(text);
    if (fault != 0) return fault;
    int done = 0;
    for (String clause : text.split(";")) {
      if (perform(clause.split(" ")) < 0) return done;
      done++;
    }
    return done;
  }

  private int perform(String[] words) {
    int a = Integer.parseInt(words[1]);
    int b = words.length > 2 ? Integer.parseInt(words[2]) : 0;
    switch (words[0]) {
      case "put": return put(a, b);
      case "take": return take(a);
      case "tread": return tread(a, b);
      default: return centre(a, b);
    }
  }

  int loads(int n) {
    String text = take(n, 1, 60);
    if (text == null) return -1;
    int fault = Texts.loadsFault(text);
    if (fault != 0) return fault;
    loads.clear();
    for (String push : text.split(";")) {
      String[] numbers = push.split(",");
      loads.add(new long[] {Long.parseLong(numbers[0]), Long.parseLong(numbers[1]), Long.parseLong(numbers[2])});
    }
    return loads.size();
  }

  int check(int n) {
    String text = take(n, 0, 12);
    if (text == null) return -2;
    StringBuilder right = new StringBuilder();
    for (int[] finger : fingers) right.append((char) finger[0]).append((char) finger[1]);
    for (int i = 0; i < n; i++) if (i >= right.length() || right.charAt(i) != text.charAt(i)) return i;
    return -1;
  }

  // ---- what is done ----

  private void note(int kind) {
    past.add(0, new int[] {kind, fingers.size(), firm() ? 1 : 0, rank()});
    while (past.size() > 20) past.remove(20);
  }

  int put(int edge, int k) {
    if (!isPlace(edge, k)) return -1;
    if (fingerAt(edge, k) >= 0) return -2;
    if (fingers.size() == 6) return -3;
    fingers.add(at(edge, k));
    note(0);
    return fingers.size() - 1;
  }

  int take(int finger) {
    if (finger < 0 || finger >= fingers.size()) return -1;
    fingers.remove(finger);
    note(1);
    return fingers.size();
  }

  int tread(int tm, int tq) {
    if (tm < 0 || tm > 3 || tq < 1 || tq > 3) return -1;
    m = tm;
    q = tq;
    note(2);
    return 0;
  }

  int centre(int cx, int cy) {
    if (cx < 0 || cx > 9 || cy < 0 || cy > 9) return -1;
    centre = at(cx, cy);
    note(3);
    return 0;
  }

  int turn() {
    corners.replaceAll(c -> at(9 - c[1], c[0]));
    centre = at(9 - centre[1], centre[0]);
    note(4);
    return firm() ? 1 : 0;
  }

  int past(int k, int what) {
    return k < 0 || k >= past.size() || what < 0 || what > 3 ? -1 : past.get(k)[what];
  }

  boolean seed(int s) {
    if (s < 0 || s > 65535) return false;
    x = s;
    return true;
  }

  int keep() {
    kept = new Model();
    kept.takeOver(this);
    return fingers.size();
  }

  boolean undo() {
    if (kept == null) return false;
    takeOver(kept);
    return true;
  }

  // ---- the plate ----

  private int[] along(int e) {
    int[] a = corners.get(e);
    int[] b = corners.get((e + 1) % corners.size());
    return at(b[0] - a[0], b[1] - a[1]);
  }

  private int steps(int e) {
    int[] d = along(e);
    int g = Math.max(Math.abs(d[0]), Math.abs(d[1]));
    while (d[0] % g != 0 || d[1] % g != 0) g--;
    return g;
  }

  private boolean isPlace(int e, int k) {
    return e >= 0 && e < corners.size() && k > 0 && k < steps(e);
  }

  private int fingerAt(int e, int k) {
    for (int i = 0; i < fingers.size(); i++) if (Arrays.equals(fingers.get(i), at(e, k))) return i;
    return -1;
  }

  List<int[]> places() {
    List<int[]> all = new ArrayList<>();
    for (int e = 0; e < corners.size(); e++) for (int k = 1; k < steps(e); k++) all.add(at(e, k));
    return all;
  }

  private int[] spot(int[] place) {
    int g = steps(place[0]);
    int[] d = along(place[0]);
    int[] c = corners.get(place[0]);
    return at(c[0] + d[0] / g * place[1], c[1] + d[1] / g * place[1]);
  }

  int corner(int i, int what) {
    return i < 0 || i >= corners.size() || what < 0 || what > 1 ? -1 : corners.get(i)[what];
  }

  long edge(int e, int what) {
    if (e < 0 || e >= corners.size() || what < 0 || what > 4) return NO;
    int g = steps(e);
    int[] d = along(e);
    return new long[] {d[0] / g, d[1] / g, -d[1] / g, d[0] / g, g}[what];
  }

  int place(int i, int what) {
    List<int[]> all = places();
    if (i < 0 || i >= all.size() || what < 0 || what > 6) return -1;
    int[] place = all.get(i);
    if (what < 2) return place[what];
    if (what < 4) return spot(place)[what - 2];
    if (what == 4) {
      int finger = fingerAt(place[0], place[1]);
      return finger < 0 ? -2 : finger;
    }
    int number = 0;
    int first = -2;
    for (int j = all.size() - 1; j >= 0; j--) {
      if (opposite(i, j) == 1) {
        number++;
        first = j;
      }
    }
    return what == 5 ? number : first;
  }

  int inside(int px, int py) {
    if (px < -20 || px > 20 || py < -20 || py > 20) return -1;
    double angle = 0;
    for (int e = 0; e < corners.size(); e++) {
      int[] a = corners.get(e);
      int[] b = corners.get((e + 1) % corners.size());
      if (Line2D.ptSegDistSq(a[0], a[1], b[0], b[1], px, py) < 1e-9) return 2;
      double ax = a[0] - px;
      double ay = a[1] - py;
      double bx = b[0] - px;
      double by = b[1] - py;
      angle += Math.atan2(ax * by - ay * bx, ax * bx + ay * by);
    }
    return Math.abs(angle) > 3 ? 1 : 0;
  }

  int opposite(int i, int j) {
    List<int[]> all = places();
    if (i < 0 || i >= all.size() || j < 0 || j >= all.size()) return -1;
    return i != j && sees(all.get(i), all.get(j)) && sees(all.get(j), all.get(i)) ? 1 : 0;
  }

  /** In the cone: the way is a sum of the two forces, by numbers not below 0. */
  private boolean sees(int[] from, int[] to) {
    int[] a = spot(from);
    int[] b = spot(to);
    List<long[]> cone = forces(from[0], m, q);
    Ratio[] way = {Ratio.of(b[0] - a[0]), Ratio.of(b[1] - a[1]), Ratio.ZERO};
    return Algebra.leastSum(cone, way) != null;
  }

  // ---- wrenches ----

  private List<long[]> forces(int e, int fm, int fq) {
    List<long[]> all = new ArrayList<>();
    int g = steps(e);
    int[] d = along(e);
    for (int sign = 1; sign >= -1; sign -= 2) {
      long fx = -fq * d[1] / g + sign * fm * d[0] / g;
      long fy = fq * d[0] / g + sign * fm * d[1] / g;
      long c = Ratio.gcd(fx, fy);
      if (sign == 1 || fm > 0) all.add(new long[] {fx / c, fy / c, 0});
    }
    return all;
  }

  private List<long[]> wrenches(List<int[]> by, int fm, int fq) {
    List<long[]> all = new ArrayList<>();
    for (int[] finger : by) {
      int[] p = spot(finger);
      for (long[] f : forces(finger[0], fm, fq)) {
        all.add(new long[] {f[0], f[1], (p[0] - centre[0]) * f[1] - (p[1] - centre[1]) * f[0]});
      }
    }
    return all;
  }

  List<long[]> wrenches() {
    return wrenches(fingers, m, q);
  }

  private static long makes(long[] a, long[] b) {
    return a[0] * b[0] + a[1] * b[1] + a[2] * b[2];
  }

  int rank() {
    return Algebra.rank(wrenches());
  }

  static Ratio effort(List<long[]> w, Ratio a, Ratio b, Ratio c) {
    Ratio[] turned = {Ratio.ZERO.minus(a), Ratio.ZERO.minus(b), Ratio.ZERO.minus(c)};
    return Algebra.leastSum(w, turned);
  }

  static Ratio effort(List<long[]> w, long a, long b, long c) {
    return effort(w, Ratio.of(a), Ratio.of(b), Ratio.of(c));
  }

  /** The sums make the whole space: each of the six ways along the axes is held. */
  static boolean firm(List<long[]> w) {
    if (w.size() < 4) return false;
    for (int i = 0; i < 6; i++) {
      int s = i % 2 == 0 ? 1 : -1;
      if (effort(w, i / 2 == 0 ? s : 0, i / 2 == 1 ? s : 0, i / 2 == 2 ? s : 0) == null) return false;
    }
    return true;
  }

  boolean firm() {
    return firm(wrenches());
  }

  private boolean firmBy(int set) {
    List<int[]> some = new ArrayList<>();
    for (int i = 0; i < fingers.size(); i++) if ((set >> i & 1) == 1) some.add(fingers.get(i));
    return firm(wrenches(some, m, q));
  }

  /** Effort grows evenly and is bent one way, so on a cube it is greatest at a corner. */
  static Ratio weakest(List<long[]> w) {
    Ratio most = Ratio.ZERO;
    for (int i = 0; i < 8; i++) {
      Ratio e = effort(w, (i & 1) * 2 - 1, (i & 2) - 1, (i & 4) / 2 - 1);
      if (e.compareTo(most) > 0) most = e;
    }
    return Ratio.ONE.by(most);
  }

  int count(int what) {
    switch (what) {
      case 0: return corners.size();
      case 1: return area(corners);
      case 2: return fingers.size();
      case 3: return wrenches().size();
      case 4: return rank();
      case 5: return firm() ? 1 : 0;
      case 6: return places().size();
      case 7: return m;
      case 8: return q;
      case 9: return centre[0];
      case 10: return centre[1];
      case 11: return firm() ? needed() : -2;
      case 12: return firm() ? Integer.bitCount(least()) : -2;
      case 13: return firm() ? least() : -2;
      case 14: return tape.length();
      case 15: return x;
      case 16: return couplesOpposite();
      default: return -1;
    }
  }

  private int couplesOpposite() {
    int number = 0;
    int n = places().size();
    for (int i = 0; i < n; i++) for (int j = 0; j < i; j++) number += opposite(i, j);
    return number;
  }

  private int needed() {
    int bits = 0;
    int all = (1 << fingers.size()) - 1;
    for (int i = 0; i < fingers.size(); i++) if (!firmBy(all - (1 << i))) bits += 1 << i;
    return bits;
  }

  private int least() {
    int best = (1 << fingers.size()) - 1;
    for (int set = best; set > 0; set--) {
      if (Integer.bitCount(set) <= Integer.bitCount(best) && firmBy(set)) best = set;
    }
    return best;
  }

  int finger(int i, int what) {
    if (i < 0 || i >= fingers.size() || what < 0 || what > 5) return -1;
    if (what < 2) return fingers.get(i)[what];
    if (what < 4) return spot(fingers.get(i))[what - 2];
    if (what == 4) return forces(fingers.get(i)[0], m, q).size();
    return firmBy((1 << fingers.size()) - 1 - (1 << i)) ? 1 : 0;
  }

  long wrench(int j, int what) {
    List<long[]> w = wrenches();
    if (j < 0 || j >= w.size() || what < 0 || what > 3) return NO;
    return what < 3 ? w.get(j)[what] : m == 0 ? j : j / 2;
  }

  private static long[] cross(long[] a, long[] b) {
    return lower(new long[] {a[1] * b[2] - a[2] * b[1], a[2] * b[0] - a[0] * b[2], a[0] * b[1] - a[1] * b[0]});
  }

  private static long[] lower(long[] v) {
    long g = Ratio.gcd(v[0], Ratio.gcd(v[1], v[2]));
    return g == 0 ? v : new long[] {v[0] / g, v[1] / g, v[2] / g};
  }

  /** All that couples make, in their order; with a lower RANK the one that frees. */
  private List<long[]> freeing() {
    List<long[]> w = wrenches();
    List<long[]> all = new ArrayList<>();
    if (firm()) return all;
    if (rank() < 3) {
      all.add(lowest(w));
      return all;
    }
    for (int i = 0; i < w.size(); i++) {
      for (int j = i + 1; j < w.size(); j++) {
        long[] v = cross(w.get(i), w.get(j));
        long[] back = {-v[0], -v[1], -v[2]};
        if (makes(v, v) == 0) continue;
        if (w.stream().allMatch(o -> makes(v, o) <= 0)) all.add(v);
        else if (w.stream().allMatch(o -> makes(back, o) <= 0)) all.add(back);
      }
    }
    return all;
  }

  /** (1, 0, 0), else (a, 1, 0), else (a, b, 1) with fractions, whichever makes 0 with all. */
  private static long[] lowest(List<long[]> w) {
    for (int last = 0; last < 3; last++) {
      List<long[]> columns = new ArrayList<>();
      long[] goal = new long[Math.max(1, w.size())];
      for (int c = 0; c < last; c++) columns.add(new long[goal.length]);
      for (int r = 0; r < w.size(); r++) {
        for (int c = 0; c < last; c++) columns.get(c)[r] = w.get(r)[c];
        goal[r] = -w.get(r)[last];
      }
      Ratio[] x = Algebra.solve(columns, goal);
      if (x == null) continue;
      long common = 1;
      for (Ratio part : x) common = common / Ratio.gcd(common, part.below) * part.below;
      long[] v = new long[3];
      for (int c = 0; c < last; c++) v[c] = x[c].above * (common / x[c].below);
      v[last] = common;
      return v;
    }
    throw new IllegalStateException("RANK is 3");
  }

  long free(int what) {
    return what < 0 || what > 2 || firm() ? NO : freeing().get(0)[what];
  }

  long frees(int k, int what) {
    TreeSet<long[]> set = new TreeSet<>(Arrays::compare);
    if (rank() == 3) set.addAll(freeing());
    if (k == -1 && what == 0) return set.size();
    return k < 0 || k >= set.size() || what < 0 || what > 2 ? NO : new ArrayList<>(set).get(k)[what];
  }

  // ---- pushes ----

  private static boolean isPush(int a, int b, int c) {
    return Math.abs((long) a) <= 1000 && Math.abs((long) b) <= 1000 && Math.abs((long) c) <= 1000;
  }

  int held(int a, int b, int c) {
    return !isPush(a, b, c) ? -1 : effort(wrenches(), a, b, c) == null ? 0 : 1;
  }

  long effort(int a, int b, int c, int what) {
    if (!isPush(a, b, c) || what < 0 || what > 1) return NO;
    return part(effort(wrenches(), a, b, c), what == 0, NO);
  }

  private static long part(Ratio r, boolean above, long none) {
    return r == null ? none : above ? r.above : r.below;
  }

  long holder(int a, int b, int c, int k, int what) {
    if (!isPush(a, b, c) || k < -1 || what < 0 || what > 2 || k == -1 && what > 0) return NO;
    List<long[]> w = wrenches();
    Ratio effort = effort(w, a, b, c);
    if (effort == null) return NO;
    if (effort.sign() == 0) return k == -1 ? 0 : NO;
    List<int[]> rows = new ArrayList<>();
    for (int set = 1; set < 1 << w.size(); set++) {
      if (Integer.bitCount(set) > 3) continue;
      Ratio[] numbers = Algebra.solve(Algebra.pick(w, set), new long[] {-a, -b, -c});
      if (numbers == null || Arrays.stream(numbers).anyMatch(r -> r.sign() <= 0)) continue;
      Ratio sum = Arrays.stream(numbers).reduce(Ratio.ZERO, Ratio::plus);
      if (sum.compareTo(effort) == 0) rows.add(row(set));
    }
    rows.sort((p, o) -> p.length != o.length ? p.length - o.length : Arrays.compare(p, o));
    int[] row = rows.get(0);
    if (k == -1) return row.length;
    if (k >= row.length) return NO;
    int set = 0;
    for (int i : row) set |= 1 << i;
    return what == 0 ? row[k] : part(Algebra.solve(Algebra.pick(w, set), new long[] {-a, -b, -c})[k], what == 1, NO);
  }

  private static int[] row(int set) {
    int[] row = new int[Integer.bitCount(set)];
    int n = 0;
    for (int i = 0; i < 31; i++) if ((set >> i & 1) == 1) row[n++] = i;
    return row;
  }

  long load(int what) {
    List<long[]> w = wrenches();
    long bits = 0;
    Ratio most = null;
    long[] sum = new long[3];
    for (int i = 0; i < loads.size(); i++) {
      long[] p = loads.get(i);
      Ratio e = effort(w, p[0], p[1], p[2]);
      for (int c = 0; c < 3; c++) sum[c] += p[c];
      if (e == null) continue;
      bits += 1L << i;
      if (most == null || e.compareTo(most) > 0) most = e;
    }
    switch (what) {
      case 0: return loads.size();
      case 1: return bits;
      case 2: return part(most, true, -2);
      case 3: return part(most, false, -2);
      case 4: return part(effort(w, sum[0], sum[1], sum[2]), true, -2);
      case 5: return part(effort(w, sum[0], sum[1], sum[2]), false, -2);
      default: return NO;
    }
  }

  /** The middle by triangles from CORNER 0. */
  private Ratio weightEffort(int gx, int gy) {
    Ratio mx = Ratio.ZERO;
    Ratio my = Ratio.ZERO;
    int[] a = corners.get(0);
    for (int i = 1; i + 1 < corners.size(); i++) {
      int[] b = corners.get(i);
      int[] c = corners.get(i + 1);
      long twice = (b[0] - a[0]) * (c[1] - a[1]) - (b[1] - a[1]) * (c[0] - a[0]);
      mx = mx.plus(new Ratio(twice * (a[0] + b[0] + c[0]), 3));
      my = my.plus(new Ratio(twice * (a[1] + b[1] + c[1]), 3));
    }
    mx = mx.by(Ratio.of(area(corners))).minus(Ratio.of(centre[0]));
    my = my.by(Ratio.of(area(corners))).minus(Ratio.of(centre[1]));
    Ratio turning = mx.times(Ratio.of(gy)).minus(my.times(Ratio.of(gx)));
    return effort(wrenches(), Ratio.of(gx), Ratio.of(gy), turning);
  }

  long weight(int gx, int gy, int what) {
    if (gx < -9 || gx > 9 || gy < -9 || gy > 9 || what < 0 || what > 1) return NO;
    return part(weightEffort(gx, gy), what == 0, NO);
  }

  int tilt(int limit) {
    if (limit < 0 || limit > 10000) return -1;
    int bits = 0;
    for (int i = 0; i < 8; i++) {
      Ratio e = weightEffort(TILTS[i][0], TILTS[i][1]);
      if (e != null && e.compareTo(Ratio.of(limit)) <= 0) bits += 1 << i;
    }
    return bits;
  }

  int storm(int n, int limit) {
    if (n < 1 || n > 60 || limit < 0 || limit > 10000) return -1;
    long s = x;
    int number = 0;
    for (int i = 0; i < n; i++) {
      long[] p = new long[3];
      for (int c = 0; c < 3; c++) {
        s = (25173 * s + 13849) % 65536;
        p[c] = c < 2 ? s % 21 - 10 : s % 101 - 50;
      }
      Ratio e = effort(wrenches(), p[0], p[1], p[2]);
      if (e != null && e.compareTo(Ratio.of(limit)) <= 0) number++;
    }
    return number;
  }

  // ---- weakest, proof, trials ----

  /** n1, n2, n3, offset of each SIDE, in order of offsets by sizes, then of rows. */
  private List<long[]> sides() {
    List<long[]> w = wrenches();
    TreeSet<long[]> all = new TreeSet<>((p, o) -> {
      int order = new Ratio(p[3], size(p)).compareTo(new Ratio(o[3], size(o)));
      return order != 0 ? order : Arrays.compare(p, o);
    });
    for (int set = 0; set < 1 << w.size(); set++) {
      if (Integer.bitCount(set) != 3) continue;
      List<long[]> three = Algebra.pick(w, set);
      List<long[]> columns = new ArrayList<>();
      for (int c = 0; c < 3; c++) {
        columns.add(new long[] {three.get(0)[c], three.get(1)[c], three.get(2)[c]});
      }
      Ratio[] n = Algebra.solve(columns, new long[] {1, 1, 1});
      if (n == null) continue;
      long common = 1;
      for (Ratio part : n) common = common / Ratio.gcd(common, part.below) * part.below;
      long[] side = new long[4];
      for (int c = 0; c < 3; c++) side[c] = n[c].above * (common / n[c].below);
      long g = Ratio.gcd(side[0], Ratio.gcd(side[1], side[2]));
      for (int c = 0; c < 3; c++) side[c] /= g;
      side[3] = makes(side, three.get(0));
      if (w.stream().allMatch(o -> makes(side, o) <= side[3])) all.add(side);
    }
    return new ArrayList<>(all);
  }

  private static long size(long[] side) {
    return Math.abs(side[0]) + Math.abs(side[1]) + Math.abs(side[2]);
  }

  long weak(int what) {
    if (what < 0 || what > 6 || !firm()) return NO;
    if (what < 2) return part(weakest(wrenches()), what == 0, NO);
    return what == 6 ? sides().size() : sides().get(0)[what - 2];
  }

  long proof(int what) {
    if (what < 0 || what > 5 || !firm()) return NO;
    List<long[]> w = wrenches();
    int best = (1 << w.size()) - 1;
    for (int many = 4; many <= w.size(); many++) {
      int found = 0;
      for (int set = (1 << w.size()) - 1; set > 0; set--) {
        if (Integer.bitCount(set) == many && firm(Algebra.pick(w, set))) found = set;
      }
      if (found != 0) {
        best = found;
        break;
      }
    }
    if (what == 0) return Integer.bitCount(best);
    if (what == 1) return best;
    return Integer.bitCount(best) != 4 ? -2 : multiple(Algebra.pick(w, best), what - 2);
  }

  private static long multiple(List<long[]> four, int j) {
    long[] first = four.get(0);
    Ratio[] rest = Algebra.solve(four.subList(1, 4), new long[] {-first[0], -first[1], -first[2]});
    List<Ratio> all = new ArrayList<>(List.of(Ratio.ONE));
    Collections.addAll(all, rest);
    long common = 1;
    for (Ratio r : all) common = common / Ratio.gcd(common, r.below) * r.below;
    return all.get(j).above * (common / all.get(j).below);
  }

  int safe(int k) {
    if (k < 0 || k > 6) return -1;
    int all = (1 << fingers.size()) - 1;
    if (k >= fingers.size()) return 0;
    for (int gone = 0; gone <= all; gone++) if (Integer.bitCount(gone) == k && !firmBy(all - gone)) return 0;
    return 1;
  }

  long best(int what) {
    if (what < 0 || what > 3) return NO;
    int[] best = null;
    Ratio most = null;
    for (int[] place : places()) {
      if (fingerAt(place[0], place[1]) >= 0) continue;
      List<int[]> more = new ArrayList<>(fingers);
      more.add(place);
      List<long[]> w = wrenches(more, m, q);
      if (!firm(w)) continue;
      Ratio weakest = weakest(w);
      if (most == null || weakest.compareTo(most) > 0) {
        best = place;
        most = weakest;
      }
    }
    if (best == null) return -2;
    return what < 2 ? best[what] : part(most, what == 2, -2);
  }

  long two(int what) {
    if (what < 0 || what > 4) return NO;
    List<int[]> all = places();
    long[] answer = {0, -2, -2, -2, -2};
    Ratio most = null;
    for (int i = 0; i < all.size(); i++) {
      for (int j = i + 1; j < all.size(); j++) {
        List<long[]> w = wrenches(List.of(all.get(i), all.get(j)), m, q);
        if (!firm(w)) continue;
        Ratio weakest = weakest(w);
        answer[0]++;
        if (most == null || weakest.compareTo(most) > 0) {
          most = weakest;
          answer = new long[] {answer[0], i, j, most.above, most.below};
        }
      }
    }
    return answer[what];
  }

  int slide(int i, int what) {
    if (i < 0 || i >= fingers.size() || what < 0 || what > 1) return -1;
    if (!firm()) return -2;
    int[] from = fingers.get(i);
    int k = from[1];
    List<int[]> moved = new ArrayList<>(fingers);
    while (true) {
      int next = what == 0 ? k - 1 : k + 1;
      moved.set(i, at(from[0], next));
      if (!isPlace(from[0], next) || fingerAt(from[0], next) >= 0 || !firm(wrenches(moved, m, q))) return k;
      k = next;
    }
  }

  int rough(int what) {
    if (what < 0 || what > 1) return -1;
    Ratio least = null;
    for (int tm = 0; tm <= 3; tm++) {
      for (int tq = 1; tq <= 3; tq++) {
        Ratio tread = new Ratio(tm, tq);
        if ((least == null || tread.compareTo(least) < 0) && firm(wrenches(fingers, tm, tq))) least = tread;
      }
    }
    return (int) part(least, what == 0, -2);
  }
}
