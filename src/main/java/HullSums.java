/**
 * Sets of points of the plane with whole coordinates, and what can be said of their hulls.
 *
 * Every answer is exact. A coordinate of a set is at most 300 from 0, so one of a sum of two
 * hulls is at most 600 from 0: every product below fits its type.
 */
public final class HullSums {
  private static final int NO_SET = -1;
  private static final int OUTSIDE = -2;
  private static final int STATE = -3;
  private static final int FULL = -5;
  private static final int LARGE = -6;

  private static final int MOST_SETS = 8;
  private static final int MOST_POINTS = 24;
  private static final int MOST_CORNERS_OF_A_SUM = 2 * MOST_POINTS;
  private static final int MOST_GROWTH = 6;
  private static final int REACH_OF_A_POINT = 100;
  private static final int REACH_OF_A_SUM = 300;
  private static final int REACH_OF_A_PLACE = 1000;
  private static final int REACH_OF_A_WAY = 100;
  // Euclid's way takes fewer than 100 steps for any two longs.
  private static final int MOST_STEPS_OF_EUCLID = 100;

  private final Row[] sets;
  private int howMany;
  private long toldFirst;
  private long toldSecond;

  // Made once and filled anew by each call, so that no call makes an object.
  private final Row sorted;
  private final Row left;
  private final Row right;
  private final Row sums;
  private final Circle least;
  private final Lowest lowest;

  public HullSums() {
    sets = new Row[MOST_SETS];
    for (int i = 0; i < sets.length; i++) {
      sets[i] = new Row();
    }
    sorted = new Row();
    left = new Row();
    right = new Row();
    sums = new Row();
    least = new Circle();
    lowest = new Lowest();
    howMany = 0;
    toldFirst = 0;
    toldSecond = 1;
  }

  public void clear() {
    howMany = 0;
    tell(0, 1);
  }

  public int set() {
    if (howMany >= MOST_SETS) {
      return FULL;
    }
    int number = howMany;
    howMany++;
    Row row = rowOf(number);
    if (row != null) {
      row.empty();
    }
    return number;
  }

  public int point(int set, int x, int y) {
    Row row = rowOf(set);
    if (row == null) {
      return NO_SET;
    }
    if (!isNear(x, REACH_OF_A_POINT) || !isNear(y, REACH_OF_A_POINT)) {
      return OUTSIDE;
    }
    if (row.has(x, y)) {
      return 0;
    }
    if (row.size() >= MOST_POINTS) {
      return FULL;
    }
    row.add(x, y);
    return 1;
  }

  public int points(int set) {
    Row row = rowOf(set);
    return row == null ? NO_SET : row.size();
  }

  public int kind(int set) {
    Row row = rowOf(set);
    if (row == null) {
      return NO_SET;
    }
    return Math.min(hullOf(row).size(), 3);
  }

  public int corners(int set) {
    Row row = rowOf(set);
    return row == null ? NO_SET : hullOf(row).size();
  }

  public int corner(int set, int i) {
    Row row = rowOf(set);
    if (row == null) {
      return NO_SET;
    }
    Row hull = hullOf(row);
    if (i < 0 || i >= hull.size()) {
      return OUTSIDE;
    }
    tell(hull.x(i), hull.y(i));
    return 1;
  }

  public int beside(int set) {
    Row row = rowOf(set);
    if (row == null) {
      return NO_SET;
    }
    Row hull = hullOf(row);
    int onBorder = 0;
    for (int i = 0; i < row.size(); i++) {
      if (hull.place(row.x(i), row.y(i)) == 1) {
        onBorder++;
      }
    }
    return onBorder - hull.size();
  }

  public int area(int set) {
    Row row = rowOf(set);
    return row == null ? NO_SET : hullOf(row).doubleArea();
  }

  public int border(int set) {
    Row row = rowOf(set);
    return row == null ? NO_SET : hullOf(row).gridOnBorder();
  }

  public int inside(int set) {
    Row row = rowOf(set);
    if (row == null) {
      return NO_SET;
    }
    Row hull = hullOf(row);
    return hull.gridWhenGrown(1) - hull.gridOnBorder();
  }

  public int grown(int set, int k) {
    Row row = rowOf(set);
    if (row == null) {
      return NO_SET;
    }
    if (k < 0 || k > MOST_GROWTH) {
      return OUTSIDE;
    }
    return hullOf(row).gridWhenGrown(k);
  }

  public int wide(int set) {
    Row row = rowOf(set);
    if (row == null) {
      return NO_SET;
    }
    if (row.size() == 0) {
      return STATE;
    }
    int greatest = 0;
    for (int i = 1; i < row.size(); i++) {
      for (int j = 0; j < i; j++) {
        greatest = Math.max(greatest, row.squareBetween(i, j));
      }
    }
    return greatest;
  }

  public int width(int set) {
    Row row = rowOf(set);
    if (row == null) {
      return NO_SET;
    }
    if (row.size() == 0) {
      return STATE;
    }
    Row hull = hullOf(row);
    lowest.forget();
    // One of the two lines of the least width lies along a side.
    for (int i = 0; i < hull.sides(); i++) {
      long reach = hull.reachFromSide(i);
      lowest.take(reach * reach, hull.squareOfSide(i));
    }
    tellFraction(lowest.over(), lowest.under());
    return 1;
  }

  public int circle(int set, int what) {
    Row row = rowOf(set);
    if (row == null) {
      return NO_SET;
    }
    if (what < 0 || what > 2) {
      return OUTSIDE;
    }
    if (row.size() == 0) {
      return STATE;
    }
    least.enclose(hullOf(row));
    if (what == 0) {
      tellFraction(least.middleX(), least.middleUnder());
    } else if (what == 1) {
      tellFraction(least.middleY(), least.middleUnder());
    } else {
      tellFraction(least.squareOver(), least.squareUnder());
    }
    return 1;
  }

  public int sum(int a, int b) {
    int refused = fillSums(a, b, 1);
    if (refused < 0) {
      return refused;
    }
    if (!sums.isWithin(REACH_OF_A_SUM)) {
      return LARGE;
    }
    return sums.size() > MOST_POINTS ? FULL : setOf(sums);
  }

  public int turned(int set) {
    Row row = rowOf(set);
    if (row == null) {
      return NO_SET;
    }
    if (row.size() == 0) {
      return STATE;
    }
    right.becomeHull(row, -1, sorted);
    return setOf(right);
  }

  public int meets(int a, int b) {
    int refused = fillSums(a, b, -1);
    if (refused < 0) {
      return refused;
    }
    // The hulls have a point in common where a difference of two of their points is 0.
    return sums.place(0, 0) == 0 ? 0 : 1;
  }

  public int apart(int a, int b) {
    int refused = fillSums(a, b, -1);
    if (refused < 0) {
      return refused;
    }
    lowest.forget();
    if (sums.place(0, 0) == 0) {
      takeDistancesFromZero(sums);
    }
    tellFraction(lowest.over(), lowest.under());
    return 1;
  }

  public int holds(int set, int x, int y) {
    Row row = rowOf(set);
    if (row == null) {
      return NO_SET;
    }
    if (!isNear(x, REACH_OF_A_PLACE) || !isNear(y, REACH_OF_A_PLACE)) {
      return OUTSIDE;
    }
    return hullOf(row).place(x, y);
  }

  public int supports(int set, int dx, int dy) {
    Row row = rowOf(set);
    if (row == null) {
      return NO_SET;
    }
    if (!isNear(dx, REACH_OF_A_WAY) || !isNear(dy, REACH_OF_A_WAY)) {
      return OUTSIDE;
    }
    if (row.size() == 0) {
      return STATE;
    }
    Row hull = hullOf(row);
    int greatest = 0;
    int having = 0;
    for (int i = 0; i < hull.size(); i++) {
      int here = dx * hull.x(i) + dy * hull.y(i);
      if (having == 0 || here > greatest) {
        greatest = here;
        having = 1;
      } else if (here == greatest) {
        having++;
      }
    }
    tell(greatest, having);
    return 1;
  }

  public int mixed(int a, int b) {
    int refused = fillSums(a, b, 1);
    if (refused < 0) {
      return refused;
    }
    return sums.doubleArea() - left.doubleArea() - right.doubleArea();
  }

  public int nearest(int set) {
    Row row = rowOf(set);
    if (row == null) {
      return NO_SET;
    }
    if (row.size() < 2) {
      return STATE;
    }
    int nearest = row.squareBetween(0, 1);
    for (int i = 2; i < row.size(); i++) {
      for (int j = 0; j < i; j++) {
        nearest = Math.min(nearest, row.squareBetween(i, j));
      }
    }
    return nearest;
  }

  public int within(int a, int b) {
    Row rowA = rowOf(a);
    Row rowB = rowOf(b);
    if (rowA == null || rowB == null) {
      return NO_SET;
    }
    // A hull is in another one as soon as the points that it is the hull of are.
    Row hull = hullOf(rowB);
    for (int i = 0; i < rowA.size(); i++) {
      if (hull.place(rowA.x(i), rowA.y(i)) == 0) {
        return 0;
      }
    }
    return 1;
  }

  public long first() {
    return toldFirst;
  }

  public long second() {
    return toldSecond;
  }

  public int told(int what) {
    if (what == 0) {
      return howMany;
    }
    if (what != 1) {
      return OUTSIDE;
    }
    int all = 0;
    for (int i = 0; i < howMany; i++) {
      Row row = rowOf(i);
      if (row != null) {
        all += row.size();
      }
    }
    return all;
  }

  /** The points of a set, or null for a number that is no set. */
  private Row rowOf(int number) {
    if (number < 0 || number >= howMany || number >= sets.length) {
      return null;
    }
    return sets[number];
  }

  private Row hullOf(Row row) {
    left.becomeHull(row, 1, sorted);
    return left;
  }

  /**
   * Fills left with the hull of a, right with that of b times sign, sums with that of all sums of
   * a point of left and a point of right: 0, or why not.
   */
  private int fillSums(int a, int b, int sign) {
    Row rowA = rowOf(a);
    Row rowB = rowOf(b);
    if (rowA == null || rowB == null) {
      return NO_SET;
    }
    if (rowA.size() == 0 || rowB.size() == 0) {
      return STATE;
    }
    left.becomeHull(rowA, 1, sorted);
    right.becomeHull(rowB, sign, sorted);
    sums.becomeSums(left, right);
    return 0;
  }

  /** A new set of these points: its number, or FULL. */
  private int setOf(Row corners) {
    int number = set();
    Row row = rowOf(number);
    if (row != null) {
      for (int i = 0; i < corners.size(); i++) {
        row.add(corners.x(i), corners.y(i));
      }
    }
    return number;
  }

  private void takeDistancesFromZero(Row hull) {
    for (int i = 0; i < hull.size(); i++) {
      lowest.take(hull.squareFromZero(i), 1);
    }
    for (int i = 0; i < hull.sides(); i++) {
      // Elsewhere an end of the side is the nearest of its points.
      if (hull.sideFacesZero(i)) {
        long off = hull.offSide(i, 0, 0);
        lowest.take(off * off, hull.squareOfSide(i));
      }
    }
  }

  private void tell(long one, long other) {
    toldFirst = one;
    toldSecond = other;
  }

  private void tellFraction(long over, long under) {
    long common = commonDivisor(over, under);
    if (common == 0) {
      tell(0, 1);
      return;
    }
    tell(over / common, under / common);
  }

  private static boolean isNear(int number, int reach) {
    return number >= -reach && number <= reach;
  }

  private static long commonDivisor(long a, long b) {
    long one = Math.abs(a);
    long other = Math.abs(b);
    for (int i = 0; i < MOST_STEPS_OF_EUCLID && other != 0; i++) {
      long rest = one % other;
      one = other;
      other = rest;
    }
    return one;
  }

  /** Points in an order: those of a set, or the corners of a hull in theirs. */
  private static final class Row {
    private final int[] xs;
    private final int[] ys;
    private int size;

    Row() {
      xs = new int[MOST_CORNERS_OF_A_SUM];
      ys = new int[MOST_CORNERS_OF_A_SUM];
      size = 0;
    }

    int size() {
      return size;
    }

    int x(int i) {
      return i >= 0 && i < size && i < xs.length ? xs[i] : 0;
    }

    int y(int i) {
      return i >= 0 && i < size && i < ys.length ? ys[i] : 0;
    }

    void empty() {
      size = 0;
    }

    void add(int x, int y) {
      if (size >= 0 && size < xs.length && size < ys.length) {
        xs[size] = x;
        ys[size] = y;
        size++;
      }
    }

    void dropLast() {
      if (size > 0) {
        size--;
      }
    }

    boolean has(int x, int y) {
      for (int i = 0; i < size; i++) {
        if (x(i) == x && y(i) == y) {
          return true;
        }
      }
      return false;
    }

    boolean isWithin(int reach) {
      for (int i = 0; i < size; i++) {
        if (!isNear(x(i), reach) || !isNear(y(i), reach)) {
          return false;
        }
      }
      return true;
    }

    /** Comes in behind all points of less x, and of the same x and less y. */
    void addSorted(int x, int y) {
      if (size < 0 || size >= xs.length || size >= ys.length) {
        return;
      }
      int at = size;
      while (at > 0 && (xs[at - 1] > x || xs[at - 1] == x && ys[at - 1] > y)) {
        xs[at] = xs[at - 1];
        ys[at] = ys[at - 1];
        at--;
      }
      xs[at] = x;
      ys[at] = y;
      size++;
    }

    int squareBetween(int i, int j) {
      int dx = x(i) - x(j);
      int dy = y(i) - y(j);
      return dx * dx + dy * dy;
    }

    int squareFromZero(int i) {
      return x(i) * x(i) + y(i) * y(i);
    }

    /** The corners of the hull of all these points times sign, 1 or -1; sorted is overwritten. */
    void becomeHull(Row points, int sign, Row sorted) {
      sorted.empty();
      for (int i = 0; i < points.size(); i++) {
        sorted.addSorted(sign * points.x(i), sign * points.y(i));
      }
      empty();
      for (int i = 0; i < sorted.size(); i++) {
        addCorner(sorted.x(i), sorted.y(i), 1);
      }
      int below = size;
      for (int i = sorted.size() - 2; i >= 0; i--) {
        addCorner(sorted.x(i), sorted.y(i), below);
      }
      // The way back ends with the first corner once more.
      if (size > 1) {
        dropLast();
      }
    }

    /** Adds a corner; those before it, but for the first kept ones, go if the way does not turn left there. */
    private void addCorner(int x, int y, int kept) {
      while (size > kept && size > 1 && turn(size - 2, size - 1, x, y) <= 0) {
        size--;
      }
      add(x, y);
    }

    /** Above 0 where the place lies left of the line from corner i to corner j, 0 on it. */
    private int turn(int i, int j, int x, int y) {
      return (x(j) - x(i)) * (y - y(i)) - (y(j) - y(i)) * (x - x(i));
    }

    /**
     * How many sides lead round from the first corner to it. A segment has two, there and back,
     * so that all that is summed round a hull holds for it as well.
     */
    int sides() {
      return size < 2 ? 0 : size;
    }

    private int next(int i) {
      return i + 1 < size ? i + 1 : 0;
    }

    int sideX(int i) {
      return x(next(i)) - x(i);
    }

    int sideY(int i) {
      return y(next(i)) - y(i);
    }

    int squareOfSide(int i) {
      return squareBetween(i, next(i));
    }

    /** How far left of side i a place is, times the length of the side. */
    int offSide(int i, int x, int y) {
      return turn(i, next(i), x, y);
    }

    /** How far left of side i the hull reaches, times the length of the side. */
    int reachFromSide(int i) {
      int reach = 0;
      for (int j = 0; j < size; j++) {
        reach = Math.max(reach, offSide(i, x(j), y(j)));
      }
      return reach;
    }

    /** Whether the foot of 0, 0 on the line of side i is a point of the side. */
    boolean sideFacesZero(int i) {
      int fromStart = -x(i) * sideX(i) - y(i) * sideY(i);
      return fromStart >= 0 && fromStart <= squareOfSide(i);
    }

    /** Where a place is: 0 outside of this hull, 1 on its border, 2 inside. */
    int place(int x, int y) {
      if (size < 3) {
        return isOnThin(x, y) ? 1 : 0;
      }
      int where = 2;
      for (int i = 0; i < size; i++) {
        int off = offSide(i, x, y);
        if (off < 0) {
          return 0;
        }
        if (off == 0) {
          where = 1;
        }
      }
      return where;
    }

    /** Whether a place is in this hull, which is nothing, a point or a segment. */
    private boolean isOnThin(int x, int y) {
      if (size == 0) {
        return false;
      }
      int last = size - 1;
      return turn(0, last, x, y) == 0
          && x >= Math.min(x(0), x(last)) && x <= Math.max(x(0), x(last))
          && y >= Math.min(y(0), y(last)) && y <= Math.max(y(0), y(last));
    }

    int doubleArea() {
      int twice = 0;
      for (int i = 0; i < size; i++) {
        twice += x(i) * y(next(i)) - y(i) * x(next(i));
      }
      return twice;
    }

    /** How many steps from grid point to grid point lead round the hull. */
    private int gridSteps() {
      int steps = 0;
      for (int i = 0; i < sides(); i++) {
        steps += (int) commonDivisor(sideX(i), sideY(i));
      }
      return steps;
    }

    int gridOnBorder() {
      if (size == 0) {
        return 0;
      }
      // The way round a segment passes each of its points twice but for the ends.
      return size < 3 ? gridSteps() / 2 + 1 : gridSteps();
    }

    /** Pick's rule, which for the way there and back round a segment, or none round a point, holds too. */
    int gridWhenGrown(int k) {
      return size == 0 ? 0 : (doubleArea() * k * k + gridSteps() * k + 2) / 2;
    }

    /** The corners of the hull of all sums of a point of one hull and a point of the other one. */
    void becomeSums(Row a, Row b) {
      empty();
      int x = a.x(0) + b.x(0);
      int y = a.y(0) + b.y(0);
      int i = 0;
      int j = 0;
      int all = a.sides() + b.sides();
      add(x, y);
      // The sides of both, by their direction, are those of the sum; two of one direction are one.
      for (int step = 0; step < all && i + j < all; step++) {
        int order = orderOfSides(a, i, b, j);
        if (order <= 0) {
          x += a.sideX(i);
          y += a.sideY(i);
          i++;
        }
        if (order >= 0) {
          x += b.sideX(j);
          y += b.sideY(j);
          j++;
        }
        // The last side leads back to the first corner.
        if (i + j < all) {
          add(x, y);
        }
      }
    }

    /** Below 0 if side i of a comes first, above 0 if side j of b does, 0 if they have one direction. */
    private static int orderOfSides(Row a, int i, Row b, int j) {
      if (i >= a.sides()) {
        return 1;
      }
      if (j >= b.sides()) {
        return -1;
      }
      boolean aGoesBack = goesBack(a.sideX(i), a.sideY(i));
      if (aGoesBack != goesBack(b.sideX(j), b.sideY(j))) {
        return aGoesBack ? 1 : -1;
      }
      return b.sideX(j) * a.sideY(i) - b.sideY(j) * a.sideX(i);
    }

    /** Whether a side belongs to the second half of the way round, from the greatest x to the least. */
    private static boolean goesBack(int dx, int dy) {
      return dx < 0 || dx == 0 && dy < 0;
    }
  }

  /** The least of some fractions, none of them below 0; 0 if there were none. */
  private static final class Lowest {
    private long over;
    private long under;
    private boolean isSet;

    Lowest() {
      over = 0;
      under = 1;
      isSet = false;
    }

    void forget() {
      over = 0;
      under = 1;
      isSet = false;
    }

    void take(long newOver, long newUnder) {
      if (!isSet || newOver * under < over * newUnder) {
        over = newOver;
        under = newUnder;
        isSet = true;
      }
    }

    long over() {
      return over;
    }

    long under() {
      return under;
    }
  }

  /**
   * A circle through the point px, py, its middle at px + ux / under, py + uy / under. Counting
   * from a point on it keeps the test of a place free of the radius, and its numbers small.
   */
  private static final class Circle {
    private long px;
    private long py;
    private long ux;
    private long uy;
    private long under;

    Circle() {
      px = 0;
      py = 0;
      ux = 0;
      uy = 0;
      under = 1;
    }

    /** Becomes the least circle that has all these corners, of which no three lie on one line. */
    void enclose(Row corners) {
      shrinkTo(corners, 0);
      for (int i = 1; i < corners.size(); i++) {
        if (!has(corners, i)) {
          encloseThrough(corners, i);
        }
      }
    }

    /** Corner i was out of the least circle of those before it, so it lies on that which has it too. */
    private void encloseThrough(Row corners, int i) {
      shrinkTo(corners, i);
      for (int j = 0; j < i; j++) {
        if (!has(corners, j)) {
          encloseThroughBoth(corners, i, j);
        }
      }
    }

    private void encloseThroughBoth(Row corners, int i, int j) {
      spanAcross(corners, i, j);
      for (int k = 0; k < j; k++) {
        if (!has(corners, k)) {
          passThrough(corners, i, j, k);
        }
      }
    }

    private boolean has(Row corners, int i) {
      long dx = corners.x(i) - px;
      long dy = corners.y(i) - py;
      return (dx * dx + dy * dy) * under <= 2 * (dx * ux + dy * uy);
    }

    private void shrinkTo(Row corners, int i) {
      px = corners.x(i);
      py = corners.y(i);
      ux = 0;
      uy = 0;
      under = 1;
    }

    private void spanAcross(Row corners, int i, int j) {
      px = corners.x(i);
      py = corners.y(i);
      ux = corners.x(j) - px;
      uy = corners.y(j) - py;
      under = 2;
    }

    private void passThrough(Row corners, int i, int j, int k) {
      px = corners.x(i);
      py = corners.y(i);
      long bx = corners.x(j) - px;
      long by = corners.y(j) - py;
      long cx = corners.x(k) - px;
      long cy = corners.y(k) - py;
      long bb = bx * bx + by * by;
      long cc = cx * cx + cy * cy;
      long twist = bx * cy - by * cx;
      long sign = twist < 0 ? -1 : 1;
      ux = sign * (cy * bb - by * cc);
      uy = sign * (bx * cc - cx * bb);
      under = sign * 2 * twist;
    }

    long middleX() {
      return px * under + ux;
    }

    long middleY() {
      return py * under + uy;
    }

    long middleUnder() {
      return under;
    }

    long squareOver() {
      return ux * ux + uy * uy;
    }

    long squareUnder() {
      return under * under;
    }
  }
}
