/** The sentences before the promises, each that names a boundary with a test of its own. */
public final class TermsTest extends Checks {
  public static void main(String[] args) {
    lastOfAllCalls();
    eightSets();
    twentyFourPoints();
    noTwoTheSame();
    kindsOfHull();
    cornersOnNoSegment();
    firstCorner();
    insideAtTheLeft();
    otherEndOfASegment();
    borderOfAPolygon();
    borderOfThinHulls();
    gridPoints();
    toldAtFirst();
    latestThatTells();
    callsThatTellNothing();
    lowestTerms();
    secondAboveZero();
    zeroIsZeroAndOne();
    end();
  }

  private static void lastOfAllCalls() {
    begin(0, "An object is used for at most 512 calls after it has been made");
    x.set();
    for (int call = 2; call <= 511; call++) x.point(0, call % 20, 3);
    due("points(0), the 512th call", x.points(0), 20);
    begin(0, "An object is used for at most 512 calls after it has been made");
    for (int call = 1; call <= 504; call++) {
      if (call % 9 == 0) x.clear();
      else x.set();
    }
    for (int set = 0; set < 8; set++) due("set(), up to the 512th call", x.set(), set);
  }

  private static void eightSets() {
    begin(0, "SETS 0, 1, .. (8 at most)");
    for (int set = 0; set < 8; set++) {
      due("points of a set to come", x.points(set), -1);
      due("set()", x.set(), set);
      due("points of the set", x.points(set), 0);
    }
    due("set()", x.set(), -5);
    due("points(8)", x.points(8), -1);
    due("points(-1)", x.points(-1), -1);
  }

  private static void twentyFourPoints() {
    begin(0, "have POINTS, 24 at most");
    for (int set = 0; set < 8; set++) due("a line of 24", x.points(makeLine(24)), 24);
    for (int set = 0; set < 8; set++) due("a 25th point", x.point(set, 24, 0), -5);
    due("told(1)", x.told(1), 192);
  }

  private static void noTwoTheSame() {
    begin(0, "no two the same");
    int one = make(3, -4, -3, 4);
    due("the first again", x.point(one, 3, -4), 0);
    due("the last again", x.point(one, -3, 4), 0);
    due("x of one, y of the other", x.point(one, 3, 4), 1);
    due("points", x.points(one), 3);
    due("the same in another set", x.point(make(), 3, -4), 1);
  }

  private static void kindsOfHull() {
    begin(0, "nothing (the set is EMPTY), one point, a segment, or a polygon");
    int set = make();
    due("nothing", x.kind(set), 0);
    x.point(set, 5, 5);
    due("one point", x.kind(set), 1);
    x.point(set, 7, 8);
    due("a segment", x.kind(set), 2);
    x.point(set, 9, 11);
    due("a longer segment", x.kind(set), 2);
    x.point(set, 9, 12);
    due("a polygon", x.kind(set), 3);
  }

  private static void cornersOnNoSegment() {
    begin(0, "those of its points that lie on no segment between two other points of it");
    hasCorners(make(0, 0, 4, 0, 4, 4, 0, 4, 2, 0, 4, 1, 3, 4, 0, 2, 0, 1, 1, 1), 0, 0, 4, 0, 4, 4, 0, 4);
    hasCorners(make(0, 4, 0, 3, 0, 2, 0, 1, 0, 0, 1, 2), 0, 0, 1, 2, 0, 4);
    hasCorners(make(1, 1, 2, 2, 3, 3, 0, 0, 4, 4), 0, 0, 4, 4);
    // One off a line by the least that can be is a corner.
    hasCorners(make(-100, -100, 0, 0, 100, 99), -100, -100, 100, 99, 0, 0);
    hasCorners(make(-100, -100, 0, -1, 100, 99), -100, -100, 0, -1, 100, 99);
  }

  private static void firstCorner() {
    begin(0, "first that of the least x, of these that of the least y");
    tells("the least x, though not the least y", x.corner(make(0, 5, 3, 0, 6, 9), 0), 0, 5);
    tells("of two the least y", x.corner(make(0, 9, 0, 5, 3, 0), 0), 0, 5);
    tells("of three the least y", x.corner(make(0, 9, 7, 0, 0, 5, 0, -8), 0), 0, -8);
    tells("below 0", x.corner(make(-5, -5, -6, 100, 0, -100), 0), -6, 100);
  }

  private static void insideAtTheLeft() {
    begin(0, "then on round the hull with the inside at the left");
    hasCorners(make(0, 0, 0, 9, 9, 0), 0, 0, 9, 0, 0, 9);
    hasCorners(make(0, 9, 9, 9, 9, 0), 0, 9, 9, 0, 9, 9);
    hasCorners(make(0, 3, 3, 0, 6, 3, 3, 6), 0, 3, 3, 0, 6, 3, 3, 6);
    // Of those of the greatest x, too, the lesser y comes first.
    hasCorners(make(0, 0, 5, 3, 5, -3, 5, 1), 0, 0, 5, -3, 5, 3);
  }

  private static void otherEndOfASegment() {
    begin(0, "(of a segment: its other end)");
    hasCorners(make(9, 1, 5, 5), 5, 5, 9, 1);
    hasCorners(make(5, 1, 9, 5), 5, 1, 9, 5);
    hasCorners(make(4, 8, 4, -8, 4, 0), 4, -8, 4, 8);
    hasCorners(make(8, 4, -8, 4, 0, 4), -8, 4, 8, 4);
  }

  private static void borderOfAPolygon() {
    begin(0, "The BORDER of a polygon is its sides");
    int flat = make(0, 0, 6, 0, 0, 6);
    due("its first corner", x.holds(flat, 0, 0), 1);
    due("on the first side", x.holds(flat, 5, 0), 1);
    due("on the second side", x.holds(flat, 3, 3), 1);
    due("on the last side, back to the first corner", x.holds(flat, 0, 1), 1);
    due("no side, but on the line of one", x.holds(flat, 7, 0), 0);
    due("no side, but on the line of another one", x.holds(flat, 7, -1), 0);
    due("beside a side", x.holds(flat, 1, 1), 2);
  }

  private static void borderOfThinHulls() {
    begin(0, "all of a segment or of one point is border");
    int line = make(0, 0, 4, 2);
    due("the middle of a segment", x.holds(line, 2, 1), 1);
    due("its ends", x.holds(line, 0, 0) + x.holds(line, 4, 2), 2);
    due("border of a segment", x.border(line), 3);
    due("inside of a segment", x.inside(line), 0);
    int one = make(-7, 7);
    due("one point", x.holds(one, -7, 7), 1);
    due("border of one point", x.border(one), 1);
    due("inside of one point", x.inside(one), 0);
  }

  private static void gridPoints() {
    begin(0, "GRID POINTS are those with whole coordinates");
    due("none but the ends", x.border(make(0, 0, 5, 3)), 2);
    due("each third", x.border(make(-6, 3, 0, 0)), 4);
    due("none but the corners", x.border(make(0, 0, 2, 1, 1, 2)), 3);
    due("one inside", x.inside(make(0, 0, 2, 1, 1, 2)), 1);
    due("none inside", x.inside(make(0, 0, 1, 1, 3, 2)), 0);
  }

  private static void toldAtFirst() {
    begin(0, "TOLD are two numbers, first() and second(): 0 and 1 at first");
    hasTold("nothing", 0, 1);
    make(4, 5, 6, 7);
    hasTold("calls that tell nothing", 0, 1);
  }

  private static void latestThatTells() {
    begin(0, "otherwise what the latest call told that tells them");
    int flat = make(0, 0, 4, 0, 0, 3);
    int far = make(7, 4);
    tells("corner", x.corner(flat, 1), 4, 0);
    tells("width", x.width(flat), 144, 25);
    tells("circle", x.circle(flat, 1), 3, 2);
    tells("apart", x.apart(flat, far), 25, 1);
    tells("supports", x.supports(flat, -1, 0), 0, 2);
    tells("corner again", x.corner(far, 0), 7, 4);
  }

  private static void callsThatTellNothing() {
    begin(0, "otherwise what the latest call told that tells them");
    int flat = make(0, 0, 4, 0, 0, 3);
    tells("circle", x.circle(flat, 1), 3, 2);
    String[] calls = {"set", "point", "points", "kind", "corners", "beside", "area", "border", "inside", "grown",
        "wide", "sum", "turned", "meets", "holds", "mixed", "nearest", "within", "first", "second", "told"};
    for (int i = 0; i < calls.length; i++) {
      callOne(i, flat);
      hasTold(calls[i], 3, 2);
    }
  }

  private static long callOne(int which, int set) {
    switch (which) {
      case 0: return x.set();
      case 1: return x.point(set, 1, 1);
      case 2: return x.points(set);
      case 3: return x.kind(set);
      case 4: return x.corners(set);
      case 5: return x.beside(set);
      case 6: return x.area(set);
      case 7: return x.border(set);
      case 8: return x.inside(set);
      case 9: return x.grown(set, 2);
      case 10: return x.wide(set);
      case 11: return x.sum(set, set);
      case 12: return x.turned(set);
      case 13: return x.meets(set, set);
      case 14: return x.holds(set, 1, 1);
      case 15: return x.mixed(set, set);
      case 16: return x.nearest(set);
      case 17: return x.within(set, set);
      case 18: return x.first();
      case 19: return x.second();
      default: return x.told(1);
    }
  }

  private static void lowestTerms() {
    begin(0, "a FRACTION is told in lowest terms");
    int slanted = make(0, 1, 1, 0, 2, 1, 1, 2);
    tells("width, 4 over 2", x.width(slanted), 2, 1);
    int line = make(0, 0, 4, 4);
    tells("apart, 16 over 32", x.apart(line, make(2, 1)), 1, 2);
    tells("circle, 8 over 4", x.circle(line, 0), 2, 1);
    tells("circle, 32 over 4", x.circle(line, 2), 8, 1);
    tells("circle of three, as told", x.circle(make(-2, 0, 2, 0, 0, 3), 2), 169, 36);
  }

  private static void secondAboveZero() {
    begin(0, "second() above 0");
    tells("an odd middle below 0", x.circle(make(-3, 0, 0, -5), 0), -3, 2);
    tells("a whole middle below 0", x.circle(make(-4, 0, 0, -6), 1), -3, 1);
    // Three points on one circle, in both ways round.
    tells("below 0", x.circle(make(-2, -40, 2, -40, 0, -43), 1), -245, 6);
    tells("below 0, with another order", x.circle(make(0, -43, 2, -40, -2, -40), 1), -245, 6);
    tells("below 0, upside down", x.circle(make(-2, -40, 2, -40, 0, -37), 1), -235, 6);
    tells("below 0, to the left", x.circle(make(-40, -2, -40, 2, -43, 0), 0), -245, 6);
    tells("below 0, to the right", x.circle(make(-40, -2, -40, 2, -37, 0), 0), -235, 6);
  }

  private static void zeroIsZeroAndOne() {
    begin(0, "(0 is 0 and 1)");
    int line = make(-6, -4, 6, 4);
    int flat = make(5, 5, 9, 5, 5, 9);
    tells("width of a segment", x.width(line), 0, 1);
    tells("width of a triangle", x.width(flat), 8, 1);
    tells("width of a point", x.width(make(8, 8)), 0, 1);
    tells("circle", x.circle(flat, 0), 7, 1);
    tells("middle at 0, x", x.circle(line, 0), 0, 1);
    tells("circle", x.circle(flat, 0), 7, 1);
    tells("middle at 0, y", x.circle(line, 1), 0, 1);
    tells("circle", x.circle(flat, 0), 7, 1);
    tells("circle of one point", x.circle(make(8, 8), 2), 0, 1);
    tells("circle", x.circle(flat, 0), 7, 1);
    tells("apart where hulls meet", x.apart(flat, flat), 0, 1);
  }
}
