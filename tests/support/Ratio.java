/** An exact fraction in lowest terms; a number too great for a long ends the test. */
final class Ratio implements Comparable<Ratio> {
  static final Ratio ZERO = new Ratio(0, 1);
  static final Ratio ONE = new Ratio(1, 1);

  final long above;
  final long below;

  Ratio(long a, long b) {
    if (b == 0) throw new IllegalArgumentException("divided by 0");
    long g = gcd(a, b);
    if (b < 0) g = -g;
    above = a / g;
    below = b / g;
  }

  static Ratio of(long a) {
    return new Ratio(a, 1);
  }

  static long gcd(long a, long b) {
    return b == 0 ? Math.abs(a) : gcd(b, a % b);
  }

  Ratio plus(Ratio o) {
    return new Ratio(Math.addExact(Math.multiplyExact(above, o.below), Math.multiplyExact(o.above, below)),
        Math.multiplyExact(below, o.below));
  }

  Ratio minus(Ratio o) {
    return plus(new Ratio(-o.above, o.below));
  }

  Ratio times(Ratio o) {
    Ratio one = new Ratio(above, o.below);
    Ratio two = new Ratio(o.above, below);
    return new Ratio(Math.multiplyExact(one.above, two.above), Math.multiplyExact(one.below, two.below));
  }

  Ratio by(Ratio o) {
    return times(new Ratio(o.below, o.above));
  }

  int sign() {
    return Long.signum(above);
  }

  @Override public int compareTo(Ratio o) {
    return minus(o).sign();
  }
}
