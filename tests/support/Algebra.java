import java.util.ArrayList;
import java.util.List;

/** Linear equations and the simplex method over fractions: other ways than the judge's own to the same answers. */
final class Algebra {
  private Algebra() { }

  /** Numbers x with columns times x making the goal, if they are the only ones; else null. */
  static Ratio[] solve(List<long[]> columns, long[] goal) {
    int n = columns.size();
    Ratio[][] rows = new Ratio[goal.length][n + 1];
    for (int r = 0; r < goal.length; r++) {
      for (int c = 0; c < n; c++) rows[r][c] = Ratio.of(columns.get(c)[r]);
      rows[r][n] = Ratio.of(goal[r]);
    }
    int done = 0;
    for (int c = 0; c < n; c++) {
      int at = done;
      while (at < rows.length && rows[at][c].sign() == 0) at++;
      if (at == rows.length) return null;
      swap(rows, at, done);
      pivot(rows, done, c);
      done++;
    }
    for (int r = done; r < rows.length; r++) if (rows[r][n].sign() != 0) return null;
    Ratio[] x = new Ratio[n];
    for (int c = 0; c < n; c++) x[c] = rows[c][n];
    return x;
  }

  static int rank(List<long[]> vectors) {
    int done = 0;
    Ratio[][] rows = new Ratio[vectors.size()][3];
    for (int r = 0; r < rows.length; r++) for (int c = 0; c < 3; c++) rows[r][c] = Ratio.of(vectors.get(r)[c]);
    for (int c = 0; c < 3; c++) {
      int at = done;
      while (at < rows.length && rows[at][c].sign() == 0) at++;
      if (at == rows.length) continue;
      swap(rows, at, done);
      pivot(rows, done, c);
      done++;
    }
    return done;
  }

  private static void swap(Ratio[][] rows, int a, int b) {
    Ratio[] kept = rows[a];
    rows[a] = rows[b];
    rows[b] = kept;
  }

  private static void pivot(Ratio[][] rows, int r, int c) {
    Ratio lead = rows[r][c];
    for (int i = 0; i < rows[r].length; i++) rows[r][i] = rows[r][i].by(lead);
    for (int o = 0; o < rows.length; o++) {
      if (o == r || rows[o][c].sign() == 0) continue;
      Ratio times = rows[o][c];
      for (int i = 0; i < rows[o].length; i++) rows[o][i] = rows[o][i].minus(times.times(rows[r][i]));
    }
  }

  /** The least sum of numbers not below 0 by which the columns make the goal (two phases, Bland's rule); null: none. */
  static Ratio leastSum(List<long[]> columns, Ratio[] goal) {
    int n = columns.size();
    Ratio[][] table = new Ratio[4][n + 4];
    for (int r = 0; r < 3; r++) {
      int sign = goal[r].sign() < 0 ? -1 : 1;
      for (int c = 0; c < n; c++) table[r][c] = Ratio.of(sign * columns.get(c)[r]);
      for (int c = 0; c < 3; c++) table[r][n + c] = c == r ? Ratio.ONE : Ratio.ZERO;
      table[r][n + 3] = goal[r].times(Ratio.of(sign));
    }
    int[] base = {n, n + 1, n + 2};
    for (int c = 0; c < n + 4; c++) {
      Ratio sum = Ratio.ZERO;
      for (int r = 0; r < 3; r++) sum = sum.plus(table[r][c]);
      table[3][c] = c >= n && c < n + 3 ? Ratio.ZERO : Ratio.ZERO.minus(sum);
    }
    descend(table, base, n);
    if (table[3][n + 3].sign() != 0) return null;
    leaveHelpers(table, base, n);
    for (int c = 0; c < n + 4; c++) {
      Ratio cost = c < n ? Ratio.ONE : Ratio.ZERO;
      for (int r = 0; r < 3; r++) if (base[r] < n) cost = cost.minus(table[r][c]);
      table[3][c] = cost;
    }
    descend(table, base, n);
    return Ratio.ZERO.minus(table[3][n + 3]);
  }

  private static void leaveHelpers(Ratio[][] table, int[] base, int n) {
    for (int r = 0; r < 3; r++) {
      for (int c = 0; c < n && base[r] >= n; c++) {
        if (table[r][c].sign() != 0) {
          pivot(table, r, c);
          base[r] = c;
        }
      }
    }
  }

  private static void descend(Ratio[][] table, int[] base, int n) {
    while (true) {
      int in = 0;
      while (in < n && table[3][in].sign() >= 0) in++;
      if (in == n) return;
      int out = -1;
      Ratio least = null;
      for (int r = 0; r < 3; r++) {
        if (table[r][in].sign() <= 0) continue;
        Ratio way = table[r][n + 3].by(table[r][in]);
        int order = least == null ? -1 : way.compareTo(least);
        if (order < 0 || order == 0 && base[r] < base[out]) {
          out = r;
          least = way;
        }
      }
      if (out < 0) throw new IllegalStateException("no bound below");
      pivot(table, out, in);
      base[out] = in;
    }
  }

  static List<long[]> pick(List<long[]> all, int set) {
    List<long[]> some = new ArrayList<>();
    for (int i = 0; i < all.size(); i++) if ((set >> i & 1) == 1) some.add(all.get(i));
    return some;
  }
}
