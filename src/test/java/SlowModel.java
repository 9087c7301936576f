import java.math.BigInteger;
import java.util.ArrayList;
import java.util.List;

/**
 * The document once more, found in other ways than the program's: hulls by wrapping, grid points
 * row by row, sums from all pairs of points, circles from all pairs and triples, distances and
 * meetings from all pairs of sides. Slow, and only for tests.
 */
final class SlowModel {
  record Point(long x, long y) {
    Point minus(Point o) { return new Point(x - o.x, y - o.y); }
    Point plus(Point o) { return new Point(x + o.x, y + o.y); }
    long cross(Point o) { return x * o.y - y * o.x; }
    long dot(Point o) { return x * o.x + y * o.y; }
    long square() { return dot(this); }
  }

  /** A fraction in lowest terms, under above 0. */
  record Fraction(BigInteger over, BigInteger under) {
    static Fraction of(BigInteger a, BigInteger b) {
      BigInteger g = a.gcd(b);
      if (b.signum() < 0) g = g.negate();
      return new Fraction(a.divide(g), b.divide(g));
    }
    static Fraction of(long a, long b) { return of(BigInteger.valueOf(a), BigInteger.valueOf(b)); }
    Fraction plus(Fraction o) {
      return of(over.multiply(o.under).add(o.over.multiply(under)), under.multiply(o.under));
    }
    Fraction minus(Fraction o) { return plus(of(o.over.negate(), o.under)); }
    Fraction times(Fraction o) { return of(over.multiply(o.over), under.multiply(o.under)); }
    boolean isLess(Fraction o) { return over.multiply(o.under).compareTo(o.over.multiply(under)) < 0; }
  }

  record Disc(Fraction x, Fraction y, Fraction square) {
    boolean has(Point p) {
      Fraction dx = Fraction.of(p.x, 1).minus(x);
      Fraction dy = Fraction.of(p.y, 1).minus(y);
      return !square.isLess(dx.times(dx).plus(dy.times(dy)));
    }
  }

  final List<List<Point>> sets = new ArrayList<>();
  long first = 0;
  long second = 1;

  void clear() { sets.clear(); first = 0; second = 1; }

  int set() {
    if (sets.size() == 8) return -5;
    sets.add(new ArrayList<>());
    return sets.size() - 1;
  }

  int point(int set, int x, int y) {
    if (no(set)) return -1;
    if (Math.abs((long) x) > 100 || Math.abs((long) y) > 100) return -2;
    Point p = new Point(x, y);
    if (sets.get(set).contains(p)) return 0;
    if (sets.get(set).size() == 24) return -5;
    sets.get(set).add(p);
    return 1;
  }

  int points(int set) { return no(set) ? -1 : sets.get(set).size(); }

  int kind(int set) { return no(set) ? -1 : Math.min(3, wrap(sets.get(set)).size()); }

  int corners(int set) { return no(set) ? -1 : wrap(sets.get(set)).size(); }

  int corner(int set, int i) {
    if (no(set)) return -1;
    List<Point> c = wrap(sets.get(set));
    if (i < 0 || i >= c.size()) return -2;
    first = c.get(i).x;
    second = c.get(i).y;
    return 1;
  }

  int beside(int set) {
    if (no(set)) return -1;
    List<Point> c = wrap(sets.get(set));
    int n = 0;
    for (Point p : sets.get(set)) if (!c.contains(p) && onBorder(c, p)) n++;
    return n;
  }

  int area(int set) { return no(set) ? -1 : (int) twiceArea(wrap(sets.get(set))); }

  int border(int set) {
    if (no(set)) return -1;
    List<Point> c = wrap(sets.get(set));
    return (int) (rows(c, 1, false) - rows(c, 1, true));
  }

  int inside(int set) { return no(set) ? -1 : (int) rows(wrap(sets.get(set)), 1, true); }

  int grown(int set, int k) {
    if (no(set)) return -1;
    if (k < 0 || k > 6) return -2;
    List<Point> c = new ArrayList<>();
    for (Point p : sets.get(set)) c.add(new Point(p.x * k, p.y * k));
    return (int) rows(wrap(c), k, false);
  }

  int wide(int set) {
    if (no(set)) return -1;
    if (sets.get(set).isEmpty()) return -3;
    long most = 0;
    for (Point p : sets.get(set)) for (Point q : sets.get(set)) most = Math.max(most, p.minus(q).square());
    return (int) most;
  }

  int width(int set) {
    if (no(set)) return -1;
    List<Point> all = sets.get(set);
    if (all.isEmpty()) return -3;
    Fraction best = null;
    for (Point p : all) {
      for (Point q : all) {
        Point d = q.minus(p);
        if (d.square() == 0) continue;
        long low = Long.MAX_VALUE;
        long high = Long.MIN_VALUE;
        for (Point r : all) {
          low = Math.min(low, d.cross(r));
          high = Math.max(high, d.cross(r));
        }
        best = lesser(best, Fraction.of((high - low) * (high - low), d.square()));
      }
    }
    tell(best == null ? Fraction.of(0, 1) : best);
    return 1;
  }

  int circle(int set, int what) {
    if (no(set)) return -1;
    if (what < 0 || what > 2) return -2;
    if (sets.get(set).isEmpty()) return -3;
    Disc disc = leastDisc(wrap(sets.get(set)));
    tell(what == 0 ? disc.x : what == 1 ? disc.y : disc.square);
    return 1;
  }

  int sum(int a, int b) {
    if (no(a) || no(b)) return -1;
    if (sets.get(a).isEmpty() || sets.get(b).isEmpty()) return -3;
    List<Point> c = allSums(a, b);
    for (Point p : c) if (Math.abs(p.x) > 300 || Math.abs(p.y) > 300) return -6;
    c = wrap(c);
    if (sets.size() == 8 || c.size() > 24) return -5;
    sets.add(new ArrayList<>(c));
    return sets.size() - 1;
  }

  int turned(int set) {
    if (no(set)) return -1;
    if (sets.get(set).isEmpty()) return -3;
    if (sets.size() == 8) return -5;
    List<Point> c = new ArrayList<>();
    for (Point p : sets.get(set)) c.add(new Point(-p.x, -p.y));
    sets.add(new ArrayList<>(wrap(c)));
    return sets.size() - 1;
  }

  int meets(int a, int b) {
    if (no(a) || no(b)) return -1;
    if (sets.get(a).isEmpty() || sets.get(b).isEmpty()) return -3;
    return meet(wrap(sets.get(a)), wrap(sets.get(b))) ? 1 : 0;
  }

  int apart(int a, int b) {
    if (no(a) || no(b)) return -1;
    if (sets.get(a).isEmpty() || sets.get(b).isEmpty()) return -3;
    List<Point> c = wrap(sets.get(a));
    List<Point> d = wrap(sets.get(b));
    Fraction best = meet(c, d) ? Fraction.of(0, 1) : lesser(fromCorners(c, d), fromCorners(d, c));
    tell(best);
    return 1;
  }

  int holds(int set, int x, int y) {
    if (no(set)) return -1;
    if (Math.abs((long) x) > 1000 || Math.abs((long) y) > 1000) return -2;
    List<Point> c = wrap(sets.get(set));
    Point p = new Point(x, y);
    return onBorder(c, p) ? 1 : isIn(c, p) ? 2 : 0;
  }

  int supports(int set, int dx, int dy) {
    if (no(set)) return -1;
    if (Math.abs((long) dx) > 100 || Math.abs((long) dy) > 100) return -2;
    if (sets.get(set).isEmpty()) return -3;
    Point d = new Point(dx, dy);
    long most = Long.MIN_VALUE;
    for (Point p : sets.get(set)) most = Math.max(most, p.dot(d));
    long n = 0;
    for (Point p : wrap(sets.get(set))) if (p.dot(d) == most) n++;
    first = most;
    second = n;
    return 1;
  }

  int mixed(int a, int b) {
    if (no(a) || no(b)) return -1;
    if (sets.get(a).isEmpty() || sets.get(b).isEmpty()) return -3;
    return (int) (twiceArea(wrap(allSums(a, b)))
        - twiceArea(wrap(sets.get(a))) - twiceArea(wrap(sets.get(b))));
  }

  int nearest(int set) {
    if (no(set)) return -1;
    List<Point> all = sets.get(set);
    if (all.size() < 2) return -3;
    long least = Long.MAX_VALUE;
    for (Point p : all) for (Point q : all) if (!p.equals(q)) least = Math.min(least, p.minus(q).square());
    return (int) least;
  }

  int within(int a, int b) {
    if (no(a) || no(b)) return -1;
    List<Point> c = wrap(sets.get(b));
    for (Point p : sets.get(a)) if (!isIn(c, p)) return 0;
    return 1;
  }

  int told(int what) {
    if (what == 0) return sets.size();
    if (what != 1) return -2;
    int n = 0;
    for (List<Point> s : sets) n += s.size();
    return n;
  }

  private boolean no(int set) { return set < 0 || set >= sets.size(); }

  private void tell(Fraction f) {
    first = f.over.longValueExact();
    second = f.under.longValueExact();
  }

  private static Fraction lesser(Fraction a, Fraction b) {
    return a == null ? b : b == null ? a : b.isLess(a) ? b : a;
  }

  private List<Point> allSums(int a, int b) {
    List<Point> all = new ArrayList<>();
    for (Point p : sets.get(a)) for (Point q : sets.get(b)) all.add(p.plus(q));
    return all;
  }

  /** Corners by wrapping: from each the next is that which leaves no point at the right. */
  private static List<Point> wrap(List<Point> all) {
    List<Point> c = new ArrayList<>();
    if (all.isEmpty()) return c;
    Point start = all.get(0);
    for (Point p : all) if (p.x < start.x || p.x == start.x && p.y < start.y) start = p;
    Point at = start;
    do {
      c.add(at);
      Point next = at;
      for (Point p : all) {
        if (p.equals(at)) continue;
        long side = next.equals(at) ? -1 : next.minus(at).cross(p.minus(at));
        if (side < 0 || side == 0 && p.minus(at).square() > next.minus(at).square()) next = p;
      }
      at = next;
    } while (!at.equals(start));
    return c;
  }

  private static long twiceArea(List<Point> c) {
    long twice = 0;
    for (int i = 1; i + 1 < c.size(); i++) {
      twice += Math.abs(c.get(i).minus(c.get(0)).cross(c.get(i + 1).minus(c.get(0))));
    }
    return twice;
  }

  private static boolean onSegment(Point a, Point b, Point p) {
    return a.minus(p).cross(b.minus(p)) == 0 && a.minus(p).dot(b.minus(p)) <= 0;
  }

  private static boolean onBorder(List<Point> c, Point p) {
    for (int i = 0; i < c.size(); i++) {
      if (onSegment(c.get(i), c.get((i + 1) % c.size()), p)) return true;
    }
    return false;
  }

  /** A place is in a hull if the hull stays the same when it joins. */
  private static boolean isIn(List<Point> c, Point p) {
    List<Point> more = new ArrayList<>(c);
    more.add(p);
    return wrap(more).equals(c);
  }

  /** Grid points row by row: those between the outermost crossings of the row with the sides. */
  private static long rows(List<Point> c, int k, boolean strictly) {
    if (c.isEmpty()) return 0;
    if (strictly && c.size() < 3) return 0;
    long low = Long.MAX_VALUE;
    long high = Long.MIN_VALUE;
    for (Point p : c) {
      low = Math.min(low, p.y);
      high = Math.max(high, p.y);
    }
    long n = 0;
    for (long y = strictly ? low + 1 : low; y <= (strictly ? high - 1 : high); y++) {
      n += inRow(c, y, strictly);
    }
    return n;
  }

  private static long inRow(List<Point> c, long y, boolean strictly) {
    long from = Long.MAX_VALUE;
    long to = Long.MIN_VALUE;
    for (int i = 0; i < c.size(); i++) {
      Point p = c.get(i);
      Point q = c.get((i + 1) % c.size());
      if (y < Math.min(p.y, q.y) || y > Math.max(p.y, q.y)) continue;
      if (p.y == q.y) {
        from = Math.min(from, Math.min(p.x, q.x));
        to = Math.max(to, Math.max(p.x, q.x));
        continue;
      }
      long under = q.y - p.y;
      long over = p.x * under + (y - p.y) * (q.x - p.x);
      if (under < 0) { over = -over; under = -under; }
      long floor = Math.floorDiv(over, under);
      long ceil = -Math.floorDiv(-over, under);
      from = Math.min(from, strictly ? floor + 1 : ceil);
      to = Math.max(to, strictly ? ceil - 1 : floor);
    }
    return Math.max(0, to - from + 1);
  }

  private static Disc leastDisc(List<Point> c) {
    if (c.size() == 1) {
      return new Disc(Fraction.of(c.get(0).x, 1), Fraction.of(c.get(0).y, 1), Fraction.of(0, 1));
    }
    Disc best = null;
    for (int i = 0; i < c.size(); i++) {
      for (int j = 0; j < i; j++) {
        best = better(best, across(c.get(i), c.get(j)), c);
        for (int k = 0; k < j; k++) best = better(best, through(c.get(i), c.get(j), c.get(k)), c);
      }
    }
    return best;
  }

  private static Disc better(Disc best, Disc disc, List<Point> c) {
    if (best != null && !disc.square.isLess(best.square)) return best;
    for (Point p : c) if (!disc.has(p)) return best;
    return disc;
  }

  private static Disc across(Point a, Point b) {
    return new Disc(Fraction.of(a.x + b.x, 2), Fraction.of(a.y + b.y, 2), Fraction.of(a.minus(b).square(), 4));
  }

  /** Through three points by Cramer's rule on the two lines of equal distance. */
  private static Disc through(Point a, Point b, Point c) {
    long det = 2 * b.minus(a).cross(c.minus(a));
    long r1 = b.square() - a.square();
    long r2 = c.square() - a.square();
    Fraction x = Fraction.of(r1 * (c.y - a.y) - r2 * (b.y - a.y), det);
    Fraction y = Fraction.of((b.x - a.x) * r2 - (c.x - a.x) * r1, det);
    Fraction dx = x.minus(Fraction.of(a.x, 1));
    Fraction dy = y.minus(Fraction.of(a.y, 1));
    return new Disc(x, y, dx.times(dx).plus(dy.times(dy)));
  }

  private static boolean meet(List<Point> c, List<Point> d) {
    for (Point p : c) if (isIn(d, p)) return true;
    for (Point p : d) if (isIn(c, p)) return true;
    for (int i = 0; i < c.size(); i++) {
      for (int j = 0; j < d.size(); j++) {
        if (cross(c.get(i), c.get((i + 1) % c.size()), d.get(j), d.get((j + 1) % d.size()))) return true;
      }
    }
    return false;
  }

  /** Whether two segments cross, each having an end on both sides of the other one. */
  private static boolean cross(Point a, Point b, Point p, Point q) {
    long s = b.minus(a).cross(p.minus(a));
    long t = b.minus(a).cross(q.minus(a));
    long u = q.minus(p).cross(a.minus(p));
    long v = q.minus(p).cross(b.minus(p));
    return Long.signum(s) * Long.signum(t) < 0 && Long.signum(u) * Long.signum(v) < 0;
  }

  private static Fraction fromCorners(List<Point> c, List<Point> d) {
    Fraction best = null;
    for (Point p : c) {
      for (int i = 0; i < d.size(); i++) {
        best = lesser(best, fromSegment(d.get(i), d.get((i + 1) % d.size()), p));
      }
    }
    return best;
  }

  private static Fraction fromSegment(Point a, Point b, Point p) {
    Point ab = b.minus(a);
    Point ap = p.minus(a);
    if (ab.dot(ap) <= 0) return Fraction.of(ap.square(), 1);
    if (ab.dot(ap) >= ab.square()) return Fraction.of(p.minus(b).square(), 1);
    return Fraction.of(ab.cross(ap) * ab.cross(ap), ab.square());
  }
}
