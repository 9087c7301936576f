/** Each sentence of a promise that names a boundary case, with a test of its own on a new object. */
public final class BoundariesTest extends Checks {
  /** Where a number turned round, or one more or less, would wrap round. */
  private static final int[] ENDS = {Integer.MAX_VALUE, Integer.MIN_VALUE, Integer.MIN_VALUE + 1};

  public static void main(String[] args) {
    makingAndClearing();
    points();
    hulls();
    sizes();
    widths();
    circles();
    sums();
    turned();
    twoHulls();
    places();
    supports();
    mixed();
    nearest();
    within();
    told();
    end();
  }

  // Promises 1 to 3.

  private static void makingAndClearing() {
    newObject();
    clearOfFull();
    clearOfNew();
    clearOfPoints();
    newSetIsEmpty();
    eightSets();
    eightSetsOfAllMakers();
  }

  private static void newObject() {
    begin(1, "No sets.");
    due("told(0)", x.told(0), 0);
    due("told(1)", x.told(1), 0);
    due("points(0)", x.points(0), -1);
    due("within(0, 0)", x.within(0, 0), -1);
    hasTold("a new object", 0, 1);
    due("set()", x.set(), 0);
    // What is done with one object is not seen in another one.
    HullSums other = new HullSums();
    due("told(0) of another one", other.told(0), 0);
    due("point(0, 1, 1) of another one", other.point(0, 1, 1), -1);
  }

  private static void clearOfFull() {
    begin(2, "As it was made.");
    int round = makeRound();
    x.turned(round);
    makeEmptyUpTo(8);
    tells("corner", x.corner(round, 12), 9, -1);
    x.clear();
    due("told(0)", x.told(0), 0);
    due("told(1)", x.told(1), 0);
    hasTold("clear()", 0, 1);
    for (int set = 0; set < 8; set++) due("points", x.points(set), -1);
    for (int set = 0; set < 8; set++) due("set()", x.set(), set);
    due("told(1)", x.told(1), 0);
    due("set()", x.set(), -5);
  }

  private static void clearOfNew() {
    begin(2, "As it was made.");
    x.clear();
    x.clear();
    due("told(0)", x.told(0), 0);
    hasTold("clear()", 0, 1);
    due("set()", x.set(), 0);
  }

  private static void clearOfPoints() {
    begin(2, "As it was made.");
    makeLine(24);
    x.clear();
    due("set()", x.set(), 0);
    due("kind(0)", x.kind(0), 0);
    for (int i = 0; i < 24; i++) due("point", x.point(0, i, 0), 1);
    due("point", x.point(0, 24, 0), -5);
  }

  private static void newSetIsEmpty() {
    begin(3, "A new set, EMPTY: its number.");
    for (int set = 0; set < 8; set++) {
      due("set()", x.set(), set);
      due("points", x.points(set), 0);
      due("kind", x.kind(set), 0);
      due("wide", x.wide(set), -3);
      due("point", x.point(set, set, set), 1);
    }
  }

  private static void eightSets() {
    begin(3, "-5: there are 8.");
    makeEmptyUpTo(7);
    due("the eighth", x.set(), 7);
    due("the ninth", x.set(), -5);
    due("the ninth again", x.set(), -5);
    due("told(0)", x.told(0), 8);
  }

  private static void eightSetsOfAllMakers() {
    begin(3, "-5: there are 8.");
    int one = make(1, 2);
    for (int i = 0; i < 3; i++) x.sum(one, one);
    for (int i = 0; i < 4; i++) x.turned(one);
    due("set()", x.set(), -5);
    due("told(0)", x.told(0), 8);
  }

  // Promises 4 and 5.

  private static void points() {
    pointComes();
    pointIsThere();
    pointOutside();
    pointFull();
    pointOfFullIsThere();
    pointOfMadeSets();
    howManyPoints();
  }

  private static void pointComes() {
    begin(4, "A point comes into a set: 1");
    int set = make();
    due("0, 0", x.point(set, 0, 0), 1);
    due("100, 100", x.point(set, 100, 100), 1);
    due("100, -100", x.point(set, 100, -100), 1);
    due("-100, 100", x.point(set, -100, 100), 1);
    due("-100, -100", x.point(set, -100, -100), 1);
    due("points", x.points(set), 5);
    hasCorners(set, -100, -100, 100, -100, 100, 100, -100, 100);
  }

  private static void pointIsThere() {
    begin(4, "0 when it is there already.");
    int set = make(1, 2, 3, 4);
    due("1, 2", x.point(set, 1, 2), 0);
    due("3, 4", x.point(set, 3, 4), 0);
    due("2, 1", x.point(set, 2, 1), 1);
    due("1, 4", x.point(set, 1, 4), 1);
    due("2, 1 again", x.point(set, 2, 1), 0);
    due("points", x.points(set), 4);
    // Lying in the hull is not the same as being there.
    int wide = make(0, 0, 8, 0, 0, 8);
    due("on its border", x.point(wide, 4, 0), 1);
    due("inside", x.point(wide, 1, 1), 1);
  }

  private static void pointOutside() {
    begin(4, "-2: x or y is not -100 .. 100");
    int set = make();
    due("x 101", x.point(set, 101, 0), -2);
    due("x -101", x.point(set, -101, 0), -2);
    due("y 101", x.point(set, 0, 101), -2);
    due("y -101", x.point(set, 0, -101), -2);
    due("both", x.point(set, 101, 101), -2);
    for (int end : ENDS) {
      due("x " + end, x.point(set, end, 0), -2);
      due("y " + end, x.point(set, 0, end), -2);
    }
    due("points", x.points(set), 0);
  }

  private static void pointFull() {
    begin(4, "-5: there are 24, and this is none of them.");
    int set = makeLine(23);
    due("the 24th", x.point(set, 0, 50), 1);
    due("the 25th", x.point(set, 0, 51), -5);
    due("the 25th, inside", x.point(set, 1, 1), -5);
    due("points", x.points(set), 24);
    due("area", x.area(set), 22 * 50);
    due("another set has room", x.point(make(), 0, 51), 1);
  }

  private static void pointOfFullIsThere() {
    begin(4, "-5: there are 24, and this is none of them.");
    int set = makeLine(24);
    for (int i = 0; i < 24; i++) due("one of 24", x.point(set, i, 0), 0);
    due("none of 24", x.point(set, 0, 1), -5);
  }

  private static void pointOfMadeSets() {
    begin(4, "-2: x or y is not -100 .. 100");
    int far = x.sum(make(100, 0), make(100, 0));
    due("its own point, beyond 100", x.point(far, 200, 0), -2);
    due("within 100", x.point(far, 100, 0), 1);
    due("points", x.points(far), 2);
    begin(4, "-5: there are 24, and this is none of them.");
    int round = x.turned(makeRound());
    due("points", x.points(round), 24);
    due("one of them", x.point(round, 0, 10), 0);
    due("none of them", x.point(round, 0, 0), -5);
    int line = x.sum(make(0, 0, 50, 0), make(0, 0));
    for (int i = 1; i <= 22; i++) due("up to 24", x.point(line, i, 0), 1);
    due("the 25th", x.point(line, 23, 0), -5);
    due("the first corner", x.point(line, 0, 0), 0);
    due("the last one", x.point(line, 22, 0), 0);
  }

  private static void howManyPoints() {
    begin(5, "How many points a set has.");
    due("nothing", x.points(make()), 0);
    due("one", x.points(make(0, 0)), 1);
    due("24", x.points(makeLine(24)), 24);
    due("points that are no corners, too", x.points(make(0, 0, 4, 0, 0, 4, 1, 1, 2, 2)), 5);
    due("a sum has its corners alone", x.points(x.sum(2, 2)), 2);
  }

  // Promises 6 to 9.

  private static void hulls() {
    kinds();
    howManyCorners();
    cornerTold();
    noSuchCorner();
    besideThin();
    besideOfSides();
  }

  private static void kinds() {
    begin(6, "0 nothing, 1 a point, 2 a segment, 3 a polygon.");
    due("nothing", x.kind(make()), 0);
    due("a point", x.kind(make(-100, 100)), 1);
    due("two points", x.kind(make(0, 0, 0, 1)), 2);
    due("24 on one line", x.kind(makeLine(24)), 2);
    due("aslant", x.kind(make(-99, -66, 0, 0, 99, 66, 3, 2)), 2);
    due("the least polygon", x.kind(make(0, 0, 0, 1, 1, 0)), 3);
    due("one off a line", x.kind(make(-99, -66, 0, 0, 99, 67)), 3);
    due("24 corners", x.kind(makeRound()), 3);
  }

  private static void howManyCorners() {
    begin(7, "How many corners the hull has.");
    due("nothing", x.corners(make()), 0);
    due("a point", x.corners(make(0, 0)), 1);
    due("24 on one line", x.corners(makeLine(24)), 2);
    due("the least polygon", x.corners(make(0, 0, 0, 1, 1, 0)), 3);
    due("24 corners", x.corners(makeRound()), 24);
    due("turned", x.corners(x.turned(4)), 24);
  }

  private static void cornerTold() {
    begin(8, "Corner i (from 0) of the hull is told, x and y: 1.");
    tells("corner 0 of a point", x.corner(make(-100, 100), 0), -100, 100);
    int round = makeRound();
    tells("corner 0 of 24", x.corner(round, 0), -8, -2);
    tells("corner 1 of 24", x.corner(round, 1), -7, -5);
    tells("corner 23 of 24", x.corner(round, 23), -8, -1);
    tells("corner 0 of 24 again", x.corner(round, 0), -8, -2);
  }

  private static void noSuchCorner() {
    begin(8, "-2: there is none such.");
    int nothing = make();
    int one = make(3, 4);
    int line = makeLine(24);
    int round = makeRound();
    due("nothing, 0", x.corner(nothing, 0), -2);
    due("nothing, -1", x.corner(nothing, -1), -2);
    tells("a point, 0", x.corner(one, 0), 3, 4);
    refuses("a point, 1", x.corner(one, 1), -2, 3, 4);
    refuses("a point, -1", x.corner(one, -1), -2, 3, 4);
    refuses("a segment of 24 points, 2", x.corner(line, 2), -2, 3, 4);
    refuses("24 corners, 24", x.corner(round, 24), -2, 3, 4);
    refuses("24 corners, -1", x.corner(round, -1), -2, 3, 4);
    for (int end : ENDS) refuses("24 corners, " + end, x.corner(round, end), -2, 3, 4);
  }

  private static void besideThin() {
    begin(9, "How many points of the set lie on the border and are no corners.");
    due("nothing", x.beside(make()), 0);
    due("a point", x.beside(make(9, 9)), 0);
    due("two points", x.beside(make(9, 9, 12, 12)), 0);
    due("three on one line", x.beside(make(9, 9, 12, 12, 10, 10)), 1);
    due("24 on one line", x.beside(makeLine(24)), 22);
  }

  private static void besideOfSides() {
    begin(9, "How many points of the set lie on the border and are no corners.");
    due("24 corners", x.beside(makeRound()), 0);
    due("inside", x.beside(make(0, 0, 9, 0, 0, 9, 1, 1, 4, 4)), 0);
    due("on the first side", x.beside(make(0, 0, 9, 0, 0, 9, 8, 0)), 1);
    due("on the second side", x.beside(make(0, 0, 9, 0, 0, 9, 8, 1)), 1);
    due("on the last side", x.beside(make(0, 0, 9, 0, 0, 9, 0, 1)), 1);
    due("all but three", x.beside(make(0, 0, 9, 0, 0, 9, 3, 0, 6, 0, 6, 3, 3, 6, 0, 6, 0, 3)), 6);
    int sum = x.sum(1, 1);
    due("a sum has none", x.beside(sum), 0);
  }

  // Promises 10 to 13.

  private static void sizes() {
    areas();
    borders();
    insides();
    grownByNothing();
    grownOfThin();
    grownOutside();
    grownOfTheGreatest();
  }

  /** The square that reaches as far as a set may. */
  private static int makeGreatest() {
    int all = make(-100, -100, 100, -100, 100, 100, -100, 100);
    return x.sum(x.sum(all, all), all);
  }

  private static void areas() {
    begin(10, "Twice the area of the hull.");
    due("nothing", x.area(make()), 0);
    due("a point", x.area(make(100, 99)), 0);
    due("a segment", x.area(make(-99, 98, 97, -96)), 0);
    due("the least polygon", x.area(make(0, 0, 0, 1, 1, 0)), 1);
    due("the least one, far off", x.area(make(100, 100, 100, 99, 99, 99)), 1);
    due("the greatest", x.area(makeGreatest()), 720000);
  }

  private static void borders() {
    begin(11, "How many grid points lie on the border.");
    due("nothing", x.border(make()), 0);
    due("a point", x.border(make(100, 99)), 1);
    due("the least segment", x.border(make(100, 100, 99, 100)), 2);
    due("the longest segment", x.border(make(-100, -100, 100, 100)), 201);
    due("the least polygon", x.border(make(0, 0, 0, 1, 1, 0)), 3);
    due("the greatest", x.border(makeGreatest()), 2400);
  }

  private static void insides() {
    begin(12, "How many grid points lie in the hull and not on the border.");
    due("nothing", x.inside(make()), 0);
    due("a point", x.inside(make(100, 99)), 0);
    due("the longest segment", x.inside(make(-100, -100, 100, 100)), 0);
    due("all on the border", x.inside(make(0, 0, 0, 2, 2, 0)), 0);
    due("one", x.inside(make(0, 0, 0, 3, 3, 0)), 1);
    due("the greatest", x.inside(makeGreatest()), 599 * 599);
  }

  private static void grownByNothing() {
    begin(13, "when all coordinates are k times as great");
    due("nothing, k = 0", x.grown(make(), 0), 0);
    due("a point, k = 0", x.grown(make(5, 5), 0), 1);
    due("a segment, k = 0", x.grown(make(5, 5, 9, 9), 0), 1);
    due("a polygon, k = 0", x.grown(make(5, 5, 9, 9, 0, 7), 0), 1);
    due("the greatest, k = 0", x.grown(makeGreatest(), 0), 1);
  }

  private static void grownOfThin() {
    begin(13, "How many grid points lie in the hull (the border, too)");
    int nothing = make();
    int one = make(-3, 5);
    int line = make(0, 0, 6, 4);
    int flat = make(0, 0, 1, 0, 0, 1);
    for (int k = 0; k <= 6; k++) {
      due("nothing", x.grown(nothing, k), 0);
      due("a point", x.grown(one, k), 1);
      due("a segment", x.grown(line, k), 2 * k + 1);
      due("the least polygon", x.grown(flat, k), (k + 1) * (k + 2) / 2);
    }
  }

  private static void grownOutside() {
    begin(13, "-2: k is not 0 .. 6.");
    int flat = make(0, 0, 1, 0, 0, 1);
    int nothing = make();
    due("0", x.grown(flat, 0), 1);
    due("6", x.grown(flat, 6), 28);
    due("-1", x.grown(flat, -1), -2);
    due("7", x.grown(flat, 7), -2);
    due("-1, nothing", x.grown(nothing, -1), -2);
    due("7, nothing", x.grown(nothing, 7), -2);
    for (int end : ENDS) due("" + end, x.grown(flat, end), -2);
  }

  private static void grownOfTheGreatest() {
    begin(13, "How many grid points lie in the hull (the border, too)");
    due("6 times the greatest", x.grown(makeGreatest(), 6), 3601 * 3601);
  }

  // Promises 14 and 15.

  private static void widths() {
    wideOfOne();
    wideOfMore();
    wideOfNothing();
    widthOfThin();
    widthOfPolygons();
    widthOfNothing();
  }

  private static void wideOfOne() {
    begin(14, "(0 for one point)");
    due("one point", x.wide(make(-100, 100)), 0);
    due("one point by sum()", x.wide(x.sum(0, 0)), 0);
  }

  private static void wideOfMore() {
    begin(14, "The greatest square of a distance of two of its points");
    due("the first two", x.wide(make(0, 0, 9, 9, 5, 5)), 162);
    due("the last two", x.wide(make(5, 5, 0, 0, 9, 9)), 162);
    due("the first and the last", x.wide(make(0, 0, 5, 5, 9, 9)), 162);
    due("the least", x.wide(make(0, 0, 0, 1)), 1);
    due("the greatest", x.wide(makeGreatest()), 720000);
  }

  private static void wideOfNothing() {
    begin(14, "-3: the set is EMPTY.");
    int nothing = make();
    due("nothing", x.wide(nothing), -3);
    x.point(nothing, 1, 1);
    due("no longer", x.wide(nothing), 0);
  }

  private static void widthOfThin() {
    begin(15, "(0 for a point, a segment)");
    int flat = make(0, 0, 4, 0, 0, 3);
    tells("a triangle", x.width(flat), 144, 25);
    tells("a point", x.width(make(9, 9)), 0, 1);
    tells("a triangle", x.width(flat), 144, 25);
    tells("a segment", x.width(make(9, 9, -3, 5)), 0, 1);
    tells("a triangle", x.width(flat), 144, 25);
    tells("24 on one line", x.width(makeLine(24)), 0, 1);
  }

  private static void widthOfPolygons() {
    begin(15, "the least distance of two parallel lines, the hull lying on or between them");
    tells("along the first side", x.width(make(0, 0, 9, 0, 5, 1)), 1, 1);
    tells("along the last side", x.width(make(0, 0, 1, 5, 0, 9)), 1, 1);
    tells("along a side in the middle", x.width(make(0, 0, 2, -9, 1, 9)), 729, 325);
    tells("the least polygon", x.width(make(0, 0, 0, 1, 1, 0)), 1, 2);
    tells("the greatest", x.width(makeGreatest()), 360000, 1);
  }

  private static void widthOfNothing() {
    begin(15, "-3: the set is EMPTY.");
    int flat = make(0, 0, 4, 0, 0, 3);
    int nothing = make();
    tells("a triangle", x.width(flat), 144, 25);
    refuses("nothing", x.width(nothing), -3, 144, 25);
  }

  // Promise 16.

  private static void circles() {
    circleOfOne();
    circleOfTwo();
    circleOfThree();
    circleInOrOn();
    circleOfAnotherWhat();
    circleOfNothing();
  }

  private static void hasCircle(int set, long[] middleX, long[] middleY, long[] square) {
    tells("the x of its middle", x.circle(set, 0), middleX[0], middleX[1]);
    tells("the y of its middle", x.circle(set, 1), middleY[0], middleY[1]);
    tells("the square of its radius", x.circle(set, 2), square[0], square[1]);
  }

  private static long[] over(long a, long b) {
    return new long[] {a, b};
  }

  private static void circleOfOne() {
    begin(16, "Of the least circle that has all points in it or on it, a FRACTION is told");
    hasCircle(make(-100, 100), over(-100, 1), over(100, 1), over(0, 1));
    hasCircle(make(0, 0), over(0, 1), over(0, 1), over(0, 1));
  }

  private static void circleOfTwo() {
    begin(16, "Of the least circle that has all points in it or on it, a FRACTION is told");
    hasCircle(make(0, 0, 0, 1), over(0, 1), over(1, 2), over(1, 4));
    hasCircle(make(-100, -100, 100, 99), over(0, 1), over(-1, 2), over(79601, 4));
    hasCircle(makeLine(24), over(23, 2), over(0, 1), over(529, 4));
  }

  private static void circleOfThree() {
    begin(16, "Of the least circle that has all points in it or on it, a FRACTION is told");
    // The least circle of an acute triangle passes through all three corners.
    hasCircle(make(-2, 0, 2, 0, 0, 3), over(0, 1), over(5, 6), over(169, 36));
    // That of a right angle and of an obtuse one stands on the longest side.
    hasCircle(make(-5, 0, 5, 0, 3, 4), over(0, 1), over(0, 1), over(25, 1));
    hasCircle(make(-5, 0, 5, 0, 3, 3), over(0, 1), over(0, 1), over(25, 1));
    hasCircle(make(-5, 0, 5, 0, 0, 6), over(0, 1), over(11, 12), over(3721, 144));
  }

  private static void circleInOrOn() {
    begin(16, "that has all points in it or on it");
    int set = make(-5, 0, 5, 0, 3, 4, -3, -4, 4, -3, 0, 5, 0, 0);
    hasCircle(set, over(0, 1), over(0, 1), over(25, 1));
    due("just out of it", x.point(set, 1, 5), 1);
    hasCircle(set, over(-1, 118), over(7, 118), over(177025, 6962));
  }

  private static void circleOfAnotherWhat() {
    begin(16, "-2: another what");
    int set = make(-2, 0, 2, 0, 0, 3);
    tells("what = 2", x.circle(set, 2), 169, 36);
    refuses("what = -1", x.circle(set, -1), -2, 169, 36);
    refuses("what = 3", x.circle(set, 3), -2, 169, 36);
    for (int end : ENDS) refuses("what = " + end, x.circle(set, end), -2, 169, 36);
  }

  private static void circleOfNothing() {
    begin(16, "-3: the set is EMPTY.");
    int set = make(-2, 0, 2, 0, 0, 3);
    int nothing = make();
    tells("what = 2", x.circle(set, 2), 169, 36);
    for (int what = 0; what < 3; what++) refuses("what = " + what, x.circle(nothing, what), -3, 169, 36);
    refuses("what = 3", x.circle(nothing, 3), -2, 169, 36);
  }

  // Promise 17.

  private static void sums() {
    sumOfThin();
    sumOfTheSame();
    sumOfCornersInOrder();
    sumOfNothing();
    sumBeyond(1, 0);
    sumBeyond(-1, 0);
    sumBeyond(0, 1);
    sumBeyond(0, -1);
    sumBeyondInOneCorner();
    sumWithEightSets();
    sumOf24Points();
    sumOf25Points();
    sumOrder();
  }

  private static void sumOfThin() {
    begin(17, "A new set: the corners, in their order, of the hull of all sums");
    int one = make(3, -4);
    int line = make(0, 0, 4, 2, 2, 1);
    int along = make(2, 1, -2, -1);
    int across = make(0, 0, -1, 2);
    due("two points", x.sum(one, one), 4);
    hasCorners(4, 6, -8);
    due("a point and a segment", x.sum(one, line), 5);
    hasCorners(5, 3, -4, 7, -2);
    due("segments of one direction", x.sum(line, along), 6);
    hasCorners(6, -2, -1, 6, 3);
    due("segments across", x.sum(line, across), 7);
    hasCorners(7, -1, 2, 0, 0, 4, 2, 3, 4);
    due("points(5)", x.points(5), 2);
    due("points(6)", x.points(6), 2);
  }

  private static void sumOfTheSame() {
    begin(17, "(which may be the same set)");
    int flat = make(0, 0, 4, 0, 0, 3, 1, 1);
    due("a set and itself", x.sum(flat, flat), 1);
    hasCorners(1, 0, 0, 8, 0, 0, 6);
    due("the set stays", x.points(flat), 4);
    due("a sum and itself", x.sum(1, 1), 2);
    hasCorners(2, 0, 0, 16, 0, 0, 12);
  }

  private static void sumOfCornersInOrder() {
    begin(17, "A new set: the corners, in their order, of the hull of all sums");
    int flat = make(0, 0, 4, 0, 0, 3);
    int back = make(0, 0, -4, 0, 0, -3);
    due("six corners", x.sum(flat, back), 2);
    hasCorners(2, -4, 0, 0, -3, 4, -3, 4, 0, 0, 3, -4, 3);
    due("the other way", x.sum(back, flat), 3);
    hasCorners(3, -4, 0, 0, -3, 4, -3, 4, 0, 0, 3, -4, 3);
    // Sides down and up, at the ends of the way round, are one side each.
    int box = make(0, 0, 2, 0, 2, 1, 0, 1);
    due("a box and itself", x.sum(box, box), 5);
    hasCorners(5, 0, 0, 4, 0, 4, 2, 0, 2);
    due("a box and a triangle", x.sum(box, flat), 6);
    hasCorners(6, 0, 0, 6, 0, 6, 1, 2, 4, 0, 4);
  }

  private static void sumOfNothing() {
    begin(17, "-3: one of both is EMPTY");
    int one = make(1, 1);
    int nothing = make();
    due("a", x.sum(nothing, one), -3);
    due("b", x.sum(one, nothing), -3);
    due("both", x.sum(nothing, nothing), -3);
    due("told(0)", x.told(0), 2);
  }

  private static void sumBeyond(int dx, int dy) {
    begin(17, "-6: a coordinate would be beyond -300 .. 300");
    int far = makeThreeTimes(100 * dx, 100 * dy);
    hasCorners(far, 300 * dx, 300 * dy);
    int step = make(dx, dy);
    int across = make(dy, dx);
    int back = make(-dx, -dy);
    int sets = x.told(0);
    due("301", x.sum(far, step), -6);
    due("301, the other way", x.sum(step, far), -6);
    due("600", x.sum(far, far), -6);
    due("told(0)", x.told(0), sets);
    due("still 300", x.sum(far, across), sets);
    due("299", x.sum(back, far), sets + 1);
    hasCorners(sets + 1, 299 * dx, 299 * dy);
  }

  private static void sumBeyondInOneCorner() {
    begin(17, "-6: a coordinate would be beyond -300 .. 300");
    int all = make(-100, -100, 100, -100, 99, 99, -100, 100);
    int greater = x.sum(x.sum(all, all), all);
    due("the greatest", x.told(0), 3);
    int up = make(0, 0, 0, 1);
    int right = make(0, 0, 1, 0);
    due("only the least x, greatest y", x.sum(greater, up), -6);
    due("only the greatest x, least y", x.sum(greater, right), -6);
    int left = make(0, 0, -1, 0);
    int within = make(0, 0);
    due("only the two of the least x", x.sum(left, greater), -6);
    due("none", x.sum(within, greater), 7);
  }

  private static void sumWithEightSets() {
    begin(17, "-5: there are 8 sets");
    int one = make(1, 1);
    makeEmptyUpTo(7);
    due("the eighth", x.sum(one, one), 7);
    due("the ninth", x.sum(one, one), -5);
    due("told(0)", x.told(0), 8);
    due("told(1)", x.told(1), 2);
  }

  private static void sumOf24Points() {
    begin(17, "or it would have more than 24 points");
    int round = makeRound();
    int known = make(0, 0, 1, 0, 1, 1);
    due("24 and 24, of the same directions", x.sum(round, round), 2);
    due("points", x.points(2), 24);
    due("24 and 3, of the same directions", x.sum(round, known), 3);
    due("points", x.points(3), 24);
    due("the other way", x.sum(known, round), 4);
    due("points", x.points(4), 24);
    due("24 and a point", x.sum(round, make(50, 50)), 6);
    due("points", x.points(6), 24);
  }

  private static void sumOf25Points() {
    begin(17, "or it would have more than 24 points");
    int round = makeRound();
    // Its last side alone has a direction that is none of the 24.
    int skew = make(0, 0, 3, 1, 3, 2);
    int line = make(0, 0, 3, 2);
    due("25", x.sum(round, skew), -5);
    due("25, the other way", x.sum(skew, round), -5);
    due("26", x.sum(round, line), -5);
    due("told(0)", x.told(0), 3);
    due("told(1)", x.told(1), 29);
  }

  private static void sumOrder() {
    begin(17, "The order is: -1, -3, -6, -5.");
    int nothing = make();
    int far = makeThreeTimes(100, 100);
    makeEmptyUpTo(8);
    due("no set, and EMPTY, and 8 sets", x.sum(8, nothing), -1);
    due("EMPTY, and no set, and 8 sets", x.sum(nothing, 8), -1);
    due("no set, and 8 sets", x.sum(far, -1), -1);
    due("EMPTY, and 8 sets", x.sum(nothing, far), -3);
    due("the other way", x.sum(far, nothing), -3);
    due("beyond, and 8 sets", x.sum(far, far), -6);
    due("8 sets", x.sum(1, 1), -5);
  }

  // Promise 18.

  private static void turned() {
    turnedCorners();
    turnedFar();
    turnedOfNothing();
    turnedWithEightSets();
  }

  private static void turnedCorners() {
    begin(18, "the corners, in their order, of the hull of all points of a set with both coordinates turned");
    due("a point", x.turned(make(3, -4)), 1);
    hasCorners(1, -3, 4);
    due("0, 0", x.turned(make(0, 0)), 3);
    hasCorners(3, 0, 0);
    due("a segment", x.turned(make(1, 1, 5, 9, 3, 5)), 5);
    hasCorners(5, -5, -9, -1, -1);
    due("points(5)", x.points(5), 2);
    due("a polygon", x.turned(make(0, 0, 4, 0, 0, 3, 1, 1, 2, 0)), 7);
    hasCorners(7, -4, 0, 0, -3, 0, 0);
    due("points(7)", x.points(7), 3);
  }

  private static void turnedFar() {
    begin(18, "(x is -x, y is -y)");
    int far = makeThreeTimes(100, -100);
    due("as far as may be", x.turned(far), 3);
    hasCorners(3, -300, 300);
    int round = makeRound();
    due("24 points", x.turned(round), 5);
    due("points(5)", x.points(5), 24);
    hasCorners(round, -8, -2, -7, -5, -6, -7, -5, -8, -3, -9, 0, -10, 1, -10, 4, -9, 6, -8, 7, -7, 8, -5, 9, -2,
        9, -1, 8, 2, 7, 4, 6, 5, 4, 6, 1, 7, 0, 7, -3, 6, -5, 5, -6, 4, -7, 2, -8, -1);
    hasCorners(5, -9, 1, -8, -2, -7, -4, -6, -5, -4, -6, -1, -7, 0, -7, 3, -6, 5, -5, 6, -4, 7, -2, 8, 1,
        8, 2, 7, 5, 6, 7, 5, 8, 3, 9, 0, 10, -1, 10, -4, 9, -6, 8, -7, 7, -8, 5, -9, 2);
  }

  private static void turnedOfNothing() {
    begin(18, "-3: the set is EMPTY");
    int nothing = make();
    due("nothing", x.turned(nothing), -3);
    makeEmptyUpTo(8);
    due("nothing, and 8 sets", x.turned(nothing), -3);
    due("told(0)", x.told(0), 8);
  }

  private static void turnedWithEightSets() {
    begin(18, "-5: there are 8.");
    int one = make(1, 2);
    makeEmptyUpTo(7);
    due("the eighth", x.turned(one), 7);
    due("the ninth", x.turned(one), -5);
    due("told(0)", x.told(0), 8);
    due("told(1)", x.told(1), 2);
  }

  // Promises 19 and 20.

  private static void twoHulls() {
    touching();
    oneApart();
    oneInTheOther();
    justBesideAnEnd();
    of48Corners();
    twoOfNothing();
    farthestApart();
  }

  /** The square of the distance of two hulls, and whether it is 0, asked in both ways. */
  private static void areApart(int a, int b, long over, long under) {
    due("meets", x.meets(a, b), over == 0 ? 1 : 0);
    due("meets, the other way", x.meets(b, a), over == 0 ? 1 : 0);
    tells("apart", x.apart(a, b), over, under);
    tells("apart, the other way", x.apart(b, a), over, under);
  }

  private static void touching() {
    begin(19, "Whether two hulls have a point in common: 1, 0.");
    int box = make(0, 0, 4, 0, 4, 4, 0, 4);
    areApart(box, make(4, 4), 0, 1);
    areApart(box, make(4, 2), 0, 1);
    areApart(box, make(4, 4, 9, 9, 9, 8), 0, 1);
    areApart(box, make(4, 2, 9, 9, 9, 0), 0, 1);
    areApart(box, make(4, 5, 4, 4), 0, 1);
    areApart(box, make(2, 6, 6, 2), 0, 1);
    areApart(box, make(0, -3, 0, 0, -3, 0), 0, 1);
    begin(19, "Whether two hulls have a point in common: 1, 0.");
    int line = make(0, 0, 6, 4);
    areApart(line, line, 0, 1);
    areApart(line, make(6, 4, 9, 6), 0, 1);
    areApart(line, make(3, 2), 0, 1);
    areApart(line, make(3, 2, 3, 9), 0, 1);
    areApart(line, make(0, 0), 0, 1);
    areApart(line, make(2, 1, 4, 3), 0, 1);
    // They cross at a place that is no grid point.
    areApart(line, make(0, 1, 1, 0), 0, 1);
  }

  private static void oneApart() {
    begin(20, "The least distance of a point of one hull and a point of the other one is told");
    int box = make(0, 0, 4, 0, 4, 4, 0, 4);
    areApart(box, make(5, 2), 1, 1);
    areApart(box, make(-1, 2), 1, 1);
    areApart(box, make(2, 5), 1, 1);
    areApart(box, make(2, -1), 1, 1);
    areApart(box, make(5, 5), 2, 1);
    areApart(box, make(3, 6, 6, 3), 1, 2);
    areApart(box, make(5, -9, 5, 9), 1, 1);
    begin(20, "The least distance of a point of one hull and a point of the other one is told");
    int line = make(0, 0, 6, 4);
    areApart(line, make(9, 6), 13, 1);
    areApart(line, make(-3, -2, -6, -4), 13, 1);
    areApart(line, make(3, 3), 9, 13);
    areApart(line, make(0, 1, 6, 5), 9, 13);
    areApart(line, make(8, 5), 5, 1);
  }

  private static void justBesideAnEnd() {
    begin(20, "The least distance of a point of one hull and a point of the other one is told");
    int line = make(0, 0, 3, 1);
    // From a place just before the first end, just beyond the other one, right beside both, just between them.
    areApart(line, make(-1, 2), 5, 1);
    areApart(line, make(4, -1), 5, 1);
    areApart(line, make(-1, 3), 10, 1);
    areApart(line, make(4, -2), 10, 1);
    areApart(line, make(0, 1), 9, 10);
    areApart(line, make(3, 0), 9, 10);
  }

  private static void of48Corners() {
    begin(20, "The least distance of a point of one hull and a point of the other one is told");
    int round = makeRound();
    int touching = makeRound(OTHER_SIDES, 26, -18);
    int far = makeRound(OTHER_SIDES, 37, -18);
    tells("the least x", x.supports(far, -1, 0), -20, 1);
    areApart(round, touching, 0, 1);
    areApart(round, far, 121, 1);
  }

  private static void oneInTheOther() {
    begin(20, "The least distance of a point of one hull and a point of the other one is told");
    int box = make(0, 0, 4, 0, 4, 4, 0, 4);
    areApart(box, box, 0, 1);
    areApart(box, make(2, 2), 0, 1);
    areApart(box, make(1, 1, 3, 2), 0, 1);
    areApart(box, make(1, 1, 3, 2, 2, 3), 0, 1);
    areApart(box, make(-9, 2, 9, 3), 0, 1);
  }

  private static void twoOfNothing() {
    begin(19, "-3: one of both is EMPTY.");
    int one = make(1, 1);
    int nothing = make();
    due("a", x.meets(nothing, one), -3);
    due("b", x.meets(one, nothing), -3);
    due("both", x.meets(nothing, nothing), -3);
    begin(20, "-3: one of both is EMPTY.");
    one = make(1, 1);
    nothing = make();
    tells("told before", x.corner(one, 0), 1, 1);
    refuses("a", x.apart(nothing, one), -3, 1, 1);
    refuses("b", x.apart(one, nothing), -3, 1, 1);
    refuses("both", x.apart(nothing, nothing), -3, 1, 1);
  }

  private static void farthestApart() {
    begin(20, "The least distance of a point of one hull and a point of the other one is told");
    int far = makeThreeTimes(100, 100);
    areApart(far, x.turned(far), 720000, 1);
    areApart(far, far, 0, 1);
  }

  // Promise 21.

  private static void places() {
    placeOfNothing();
    placeOfOne();
    placeOfASegment();
    placeOfAPolygon();
    placeOfTheGreatest();
    placeOutside();
  }

  private static void placeOfNothing() {
    begin(21, "0 outside of the hull (of nothing, too)");
    int nothing = make();
    due("0, 0", x.holds(nothing, 0, 0), 0);
    due("1000, -1000", x.holds(nothing, 1000, -1000), 0);
  }

  private static void placeOfOne() {
    begin(21, "0 outside of the hull (of nothing, too), 1 on the border, 2 inside.");
    int one = make(0, 0);
    due("it", x.holds(one, 0, 0), 1);
    due("beside it", x.holds(one, 1, 0), 0);
    due("above it", x.holds(one, 0, 1), 0);
    due("far from it", x.holds(one, -1000, 1000), 0);
    for (int far = -9; far <= 9; far += 18) {
      int other = make(far, far);
      due("it", x.holds(other, far, far), 1);
      due("right of it", x.holds(other, far + 1, far), 0);
      due("left of it", x.holds(other, far - 1, far), 0);
      due("above it", x.holds(other, far, far + 1), 0);
      due("below it", x.holds(other, far, far - 1), 0);
    }
  }

  private static void placeOfASegment() {
    begin(21, "0 outside of the hull (of nothing, too), 1 on the border, 2 inside.");
    int line = make(0, 0, 6, 4);
    due("an end", x.holds(line, 0, 0), 1);
    due("the other end", x.holds(line, 6, 4), 1);
    due("between", x.holds(line, 3, 2), 1);
    due("beyond", x.holds(line, 9, 6), 0);
    due("before", x.holds(line, -3, -2), 0);
    due("off it", x.holds(line, 3, 3), 0);
    for (int far = -9; far <= 9; far += 18) {
      int level = make(far, far, far + 2, far);
      due("an end", x.holds(level, far + 2, far), 1);
      due("beyond", x.holds(level, far + 3, far), 0);
      due("before", x.holds(level, far - 1, far), 0);
      int up = make(far, far, far, far + 2);
      due("an end", x.holds(up, far, far + 2), 1);
      due("beyond", x.holds(up, far, far + 3), 0);
      due("before", x.holds(up, far, far - 1), 0);
    }
  }

  private static void placeOfAPolygon() {
    begin(21, "0 outside of the hull (of nothing, too), 1 on the border, 2 inside.");
    int flat = make(0, 0, 6, 0, 0, 6);
    due("just inside", x.holds(flat, 1, 1), 2);
    due("inside, near the long side", x.holds(flat, 3, 2), 2);
    due("on the long side", x.holds(flat, 3, 3), 1);
    due("just out of the long side", x.holds(flat, 4, 3), 0);
    due("just out of the first side", x.holds(flat, 1, -1), 0);
    due("just out of the last side", x.holds(flat, -1, 1), 0);
    due("a corner", x.holds(flat, 0, 6), 1);
    due("on the line of a side, beyond", x.holds(flat, 0, 7), 0);
    int skew = make(0, 0, 5, 2, 0, 5);
    due("as little inside as can be", x.holds(skew, 2, 1), 2);
    due("as little outside as can be", x.holds(skew, 3, 1), 0);
  }

  private static void placeOfTheGreatest() {
    begin(21, "0 outside of the hull (of nothing, too), 1 on the border, 2 inside.");
    int all = makeGreatest();
    due("299", x.holds(all, 299, -299), 2);
    due("300", x.holds(all, 300, -300), 1);
    due("301", x.holds(all, 301, -300), 0);
    due("1000", x.holds(all, 1000, 1000), 0);
  }

  private static void placeOutside() {
    begin(21, "-2: x or y is not -1000 .. 1000.");
    int nothing = make();
    int one = make(0, 0);
    due("x 1000", x.holds(one, 1000, 0), 0);
    due("x -1000", x.holds(one, -1000, 0), 0);
    due("y 1000", x.holds(one, 0, 1000), 0);
    due("y -1000", x.holds(one, 0, -1000), 0);
    due("x 1001", x.holds(one, 1001, 0), -2);
    due("x -1001", x.holds(one, -1001, 0), -2);
    due("y 1001", x.holds(one, 0, 1001), -2);
    due("y -1001", x.holds(one, 0, -1001), -2);
    due("of nothing", x.holds(nothing, 1001, 0), -2);
    for (int end : ENDS) {
      due("x " + end, x.holds(one, end, 0), -2);
      due("y " + end, x.holds(one, 0, end), -2);
    }
  }

  // Promise 22.

  private static void supports() {
    supportsOfThin();
    supportsOfPolygons();
    supportsNoWay();
    supportsFarthest();
    supportsOutside();
    supportsNothing();
  }

  private static void supportsOfThin() {
    begin(22, "Told are the greatest dx x + dy y of all points of the set, and how many corners have it: 1.");
    int one = make(-3, -4);
    tells("a point, below 0", x.supports(one, 1, 1), -7, 1);
    tells("a point, above 0", x.supports(one, -1, -1), 7, 1);
    int line = makeLine(24);
    tells("an end", x.supports(line, 1, 0), 23, 1);
    tells("the other end", x.supports(line, -1, 0), 0, 1);
    tells("both ends, and none of those between", x.supports(line, 0, 1), 0, 2);
  }

  private static void supportsOfPolygons() {
    begin(22, "how many corners have it");
    int box = make(0, 0, 4, 0, 4, 4, 0, 4, 4, 1, 4, 2, 4, 3, 0, 2);
    tells("a side with points beside", x.supports(box, 1, 0), 4, 2);
    tells("the last side", x.supports(box, -1, 0), 0, 2);
    tells("a corner", x.supports(box, 1, 1), 8, 1);
    tells("the first corner", x.supports(box, -1, -1), 0, 1);
    tells("the last corner", x.supports(box, -1, 1), 4, 1);
  }

  private static void supportsNoWay() {
    begin(22, "how many corners have it");
    tells("0, 0 of a point", x.supports(make(5, 5), 0, 0), 0, 1);
    tells("0, 0 of a segment", x.supports(make(5, 5, 6, 6, 7, 7), 0, 0), 0, 2);
    tells("0, 0 of 24 corners", x.supports(makeRound(), 0, 0), 0, 24);
  }

  private static void supportsFarthest() {
    begin(22, "Told are the greatest dx x + dy y of all points of the set, and how many corners have it: 1.");
    int far = makeThreeTimes(100, -100);
    tells("the greatest", x.supports(far, 100, -100), 60000, 1);
    tells("the least", x.supports(far, -100, 100), -60000, 1);
  }

  private static void supportsOutside() {
    begin(22, "-2: dx or dy is not -100 .. 100");
    int one = make(1, 1);
    tells("100, -100", x.supports(one, 100, -100), 0, 1);
    tells("-100, 100", x.supports(one, -100, 100), 0, 1);
    tells("100, 100", x.supports(one, 100, 100), 200, 1);
    refuses("dx 101", x.supports(one, 101, 0), -2, 200, 1);
    refuses("dx -101", x.supports(one, -101, 0), -2, 200, 1);
    refuses("dy 101", x.supports(one, 0, 101), -2, 200, 1);
    refuses("dy -101", x.supports(one, 0, -101), -2, 200, 1);
    for (int end : ENDS) {
      refuses("dx " + end, x.supports(one, end, 0), -2, 200, 1);
      refuses("dy " + end, x.supports(one, 0, end), -2, 200, 1);
    }
  }

  private static void supportsNothing() {
    begin(22, "-3: the set is EMPTY.");
    int one = make(1, 1);
    int nothing = make();
    tells("told before", x.supports(one, 3, 4), 7, 1);
    refuses("nothing", x.supports(nothing, 3, 4), -3, 7, 1);
    refuses("nothing, 0, 0", x.supports(nothing, 0, 0), -3, 7, 1);
    refuses("nothing, dx 101", x.supports(nothing, 101, 4), -2, 7, 1);
  }

  // Promise 23.

  private static void mixed() {
    mixedOfThin();
    mixedOfPolygons();
    mixedBeyond();
    mixedOfNothing();
  }

  private static void mixedOfThin() {
    begin(23, "Twice the area of the hull of all sums, as by sum(), less twice the areas of both hulls.");
    int one = make(9, -9);
    int line = make(0, 0, 4, 0);
    int along = make(5, 5, 9, 5);
    int up = make(0, 0, 0, 3);
    due("two points", x.mixed(one, one), 0);
    due("a point and a segment", x.mixed(one, line), 0);
    due("segments of one direction", x.mixed(line, along), 0);
    due("segments across", x.mixed(line, up), 24);
    due("the other way", x.mixed(up, line), 24);
    due("told(0)", x.told(0), 4);
  }

  private static void mixedOfPolygons() {
    begin(23, "Twice the area of the hull of all sums, as by sum(), less twice the areas of both hulls.");
    int flat = make(0, 0, 4, 0, 0, 3);
    int back = x.turned(flat);
    due("a set and itself", x.mixed(flat, flat), 24);
    due("a set and its turned one", x.mixed(flat, back), 48);
    due("a polygon and a point", x.mixed(flat, make(50, 50)), 0);
    due("told(0)", x.told(0), 3);
  }

  private static void mixedBeyond() {
    begin(23, "Twice the area of the hull of all sums, as by sum(), less twice the areas of both hulls.");
    int all = makeGreatest();
    int round = makeRound();
    int skew = make(0, 0, 3, 1, 3, 2);
    due("a sum that is LARGE", x.mixed(all, all), 1440000);
    // Twice how far the round one reaches away from the three sides, each times its side: 31, 9 and 25.
    due("a sum of 25 points", x.mixed(round, skew), 130);
    due("a sum of 48 points", x.mixed(round, makeRound(OTHER_SIDES, 0, 0)), twiceAllAcross(ROUND_SIDES, OTHER_SIDES));
    makeEmptyUpTo(8);
    due("8 sets", x.mixed(skew, skew), 6);
  }

  /** Hulls whose sides are directions and their opposites are made of one parallelogram for each two of these. */
  private static long twiceAllAcross(int[] some, int[] others) {
    long all = 0;
    for (int i = 0; i + 1 < some.length; i += 2) {
      for (int j = 0; j + 1 < others.length; j += 2) {
        all += Math.abs(some[i] * others[j + 1] - some[i + 1] * others[j]);
      }
    }
    return 2 * all;
  }

  private static void mixedOfNothing() {
    begin(23, "-3: one of both is EMPTY.");
    int one = make(1, 1);
    int nothing = make();
    due("a", x.mixed(nothing, one), -3);
    due("b", x.mixed(one, nothing), -3);
    due("both", x.mixed(nothing, nothing), -3);
  }

  // Promises 24 and 25.

  private static void nearest() {
    begin(24, "-3: it has fewer than two.");
    int set = make();
    due("nothing", x.nearest(set), -3);
    x.point(set, -100, -100);
    due("one", x.nearest(set), -3);
    x.point(set, -100, -100);
    due("one, come twice", x.nearest(set), -3);
    x.point(set, 100, 100);
    due("two", x.nearest(set), 80000);
    due("one by sum()", x.nearest(x.sum(make(1, 1), make(2, 2))), -3);
    begin(24, "The least square of a distance of two points of the set.");
    due("the first two", x.nearest(make(0, 0, 1, 0, 50, 50, 90, 9)), 1);
    due("the last two", x.nearest(make(50, 50, 90, 9, 0, 0, 1, 0)), 1);
    due("the first and the last", x.nearest(make(0, 0, 50, 50, 90, 9, 0, 1)), 1);
    due("two in the middle", x.nearest(make(90, 9, 0, 0, 1, 1, 50, 50)), 2);
    due("points that are no corners", x.nearest(make(-50, -50, 50, -50, 0, 50, 0, 0, 2, 0)), 4);
    due("points of a sum are its corners alone", x.nearest(x.sum(4, 4)), 40000);
  }

  private static void within() {
    nothingWithin();
    thinWithin();
    polygonsWithin();
  }

  private static void nothingWithin() {
    begin(25, "1 (nothing is in all)");
    int nothing = make();
    int other = make();
    int one = make(1, 1);
    int flat = make(0, 0, 4, 0, 0, 4);
    due("nothing in itself", x.within(nothing, nothing), 1);
    due("nothing in nothing", x.within(nothing, other), 1);
    due("nothing in a point", x.within(nothing, one), 1);
    due("nothing in a polygon", x.within(nothing, flat), 1);
    due("a point in nothing", x.within(one, nothing), 0);
    due("a polygon in nothing", x.within(flat, nothing), 0);
    due("no set in nothing", x.within(4, nothing), -1);
    due("nothing in no set", x.within(nothing, 4), -1);
  }

  private static void thinWithin() {
    begin(25, "Whether all points of the hull of a are in the hull of b: 1 (nothing is in all), 0.");
    int one = make(3, 2);
    int other = make(3, 3);
    int line = make(0, 0, 6, 4);
    int longer = make(0, 0, 9, 6);
    due("a point in itself", x.within(one, one), 1);
    due("a point in another one", x.within(one, other), 0);
    due("a point in a segment", x.within(one, line), 1);
    due("a point off a segment", x.within(other, line), 0);
    due("a segment in a point", x.within(line, one), 0);
    due("a segment in itself", x.within(line, line), 1);
    due("a segment in a longer one", x.within(line, longer), 1);
    due("a segment in a shorter one", x.within(longer, line), 0);
  }

  private static void polygonsWithin() {
    begin(25, "Whether all points of the hull of a are in the hull of b: 1 (nothing is in all), 0.");
    int box = make(0, 0, 4, 0, 4, 4, 0, 4);
    int onSides = make(2, 0, 4, 2, 2, 4, 0, 2);
    int inside = make(1, 1, 3, 1, 2, 3);
    int over = make(1, 1, 3, 1, 2, 5);
    due("itself", x.within(box, box), 1);
    due("its corners on the sides", x.within(onSides, box), 1);
    due("the other way", x.within(box, onSides), 0);
    due("inside", x.within(inside, box), 1);
    due("one corner out", x.within(over, box), 0);
    due("a side", x.within(make(0, 0, 0, 4), box), 1);
    due("a side and one more", x.within(make(0, 0, 0, 5), box), 0);
    due("a polygon in a segment", x.within(box, 4), 0);
  }

  // Promises 26 to 28.

  private static void told() {
    begin(26, "The first number that is told.");
    due("at first", x.first(), 0);
    tells("below 0", x.corner(make(-100, 7), 0), -100, 7);
    due("again", x.first(), -100);
    int all = make(-100, -100, 100, -100, 0, 99);
    tells("more than an int", x.circle(x.sum(x.sum(all, all), all), 2), 22142332809L, 158404);
    begin(27, "The second number that is told.");
    due("at first", x.second(), 1);
    tells("below 0", x.corner(make(7, -100), 0), 7, -100);
    due("again", x.second(), -100);
    toldCounts();
    toldAnotherWhat();
  }

  private static void toldCounts() {
    begin(28, "How many sets there are (what = 0), how many points all sets have (1).");
    due("no sets", x.told(0), 0);
    due("no points", x.told(1), 0);
    make();
    due("one set", x.told(0), 1);
    due("no points", x.told(1), 0);
    make(1, 1);
    make(1, 1, 2, 2);
    due("the same point in two sets", x.told(1), 3);
    x.clear();
    for (int set = 0; set < 8; set++) makeLine(24);
    due("8 sets", x.told(0), 8);
    due("192 points", x.told(1), 192);
  }

  private static void toldAnotherWhat() {
    begin(28, "-2: another what.");
    make(3, 4);
    tells("told before", x.corner(0, 0), 3, 4);
    refuses("what = -1", x.told(-1), -2, 3, 4);
    refuses("what = 2", x.told(2), -2, 3, 4);
    for (int end : ENDS) refuses("what = " + end, x.told(end), -2, 3, 4);
  }
}
