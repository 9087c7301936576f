/** Each promise of the document by its number, with answers worked out by hand. */
public final class PromisesTest extends Checks {
  public static void main(String[] args) {
    newObject();
    clear();
    set();
    point();
    points();
    kind();
    corners();
    corner();
    beside();
    area();
    border();
    inside();
    grown();
    wide();
    width();
    circle();
    sum();
    sumRefused();
    turned();
    meets();
    apart();
    holds();
    supports();
    mixed();
    nearest();
    within();
    firstAndSecond();
    told();
    noSet();
    farNumbers();
    end();
  }

  private static void newObject() {
    begin(1);
    due("told(0)", x.told(0), 0);
    due("told(1)", x.told(1), 0);
    due("first()", x.first(), 0);
    due("second()", x.second(), 1);
    due("points(0)", x.points(0), -1);
  }

  private static void clear() {
    begin(2);
    make(1, 2, 3, 4);
    make(5, 6);
    tells("corner(1, 0)", x.corner(1, 0), 5, 6);
    x.clear();
    due("told(0)", x.told(0), 0);
    due("told(1)", x.told(1), 0);
    due("first()", x.first(), 0);
    due("second()", x.second(), 1);
    due("points(0)", x.points(0), -1);
    due("set()", x.set(), 0);
    due("points(0)", x.points(0), 0);
    due("point(0, 1, 2)", x.point(0, 1, 2), 1);
    due("points(1)", x.points(1), -1);
    x.clear();
    x.clear();
    for (int i = 0; i < 8; i++) due("set()", x.set(), i);
  }

  private static void set() {
    begin(3);
    for (int i = 0; i < 8; i++) {
      due("set()", x.set(), i);
      due("points", x.points(i), 0);
      due("kind", x.kind(i), 0);
    }
    due("set()", x.set(), -5);
    due("told(0)", x.told(0), 8);
    due("points(8)", x.points(8), -1);
  }

  private static void point() {
    begin(4);
    due("point(0, 0, 0)", x.point(0, 0, 0), -1);
    due("set()", x.set(), 0);
    due("point(0, 100, 100)", x.point(0, 100, 100), 1);
    due("point(0, -100, -100)", x.point(0, -100, -100), 1);
    due("point(0, 101, 0)", x.point(0, 101, 0), -2);
    due("point(0, -101, 0)", x.point(0, -101, 0), -2);
    due("point(0, 0, 101)", x.point(0, 0, 101), -2);
    due("point(0, 0, -101)", x.point(0, 0, -101), -2);
    due("point(1, 101, 0)", x.point(1, 101, 0), -1);
    due("point(-1, 0, 0)", x.point(-1, 0, 0), -1);
    due("point(0, 100, 100)", x.point(0, 100, 100), 0);
    due("point(0, 100, -100)", x.point(0, 100, -100), 1);
    due("points(0)", x.points(0), 3);
    for (int i = 0; i < 21; i++) due("point", x.point(0, i, 7), 1);
    due("points(0)", x.points(0), 24);
    due("point(0, 50, 50)", x.point(0, 50, 50), -5);
    due("point(0, 20, 7)", x.point(0, 20, 7), 0);
    due("point(0, 101, 7)", x.point(0, 101, 7), -2);
    due("points(0)", x.points(0), 24);
    due("area(0)", x.area(0), 41400);
    // A set that sum() made takes points as any other one does.
    due("set()", x.set(), 1);
    due("point(1, 100, 0)", x.point(1, 100, 0), 1);
    due("sum(1, 1)", x.sum(1, 1), 2);
    due("point(2, 200, 0)", x.point(2, 200, 0), -2);
    due("point(2, 0, 0)", x.point(2, 0, 0), 1);
    due("wide(2)", x.wide(2), 40000);
  }

  private static void points() {
    begin(5);
    due("points(0)", x.points(0), -1);
    make();
    make(1, 1);
    make(0, 0, 2, 2, 1, 1);
    due("points(0)", x.points(0), 0);
    due("points(1)", x.points(1), 1);
    due("points(2)", x.points(2), 3);
    due("point(2, 1, 1)", x.point(2, 1, 1), 0);
    due("points(2)", x.points(2), 3);
    due("points(3)", x.points(3), -1);
  }

  private static void kind() {
    begin(6);
    due("kind(0)", x.kind(0), -1);
    due("nothing", x.kind(make()), 0);
    due("a point", x.kind(make(-4, 9)), 1);
    due("two points", x.kind(make(-4, 9, 3, 3)), 2);
    due("many on one line", x.kind(make(0, 0, 4, 6, -2, -3, 2, 3)), 2);
    due("many on a line down", x.kind(make(5, 0, 5, 7, 5, -3)), 2);
    due("three", x.kind(make(0, 0, 1, 0, 0, 1)), 3);
    due("very thin", x.kind(make(-100, -100, 100, 99, 0, 0)), 3);
    due("a square", x.kind(make(0, 0, 1, 0, 0, 1, 1, 1)), 3);
  }

  private static void corners() {
    begin(7);
    due("corners(0)", x.corners(0), -1);
    due("nothing", x.corners(make()), 0);
    due("a point", x.corners(make(7, 7)), 1);
    due("on one line", x.corners(make(0, 0, 3, 0, 1, 0, 2, 0)), 2);
    due("three", x.corners(make(0, 0, 9, 0, 0, 9)), 3);
    due("inside and on sides", x.corners(make(0, 0, 9, 0, 0, 9, 3, 0, 0, 5, 4, 5, 2, 2)), 3);
    due("a square", x.corners(make(1, 1, 0, 0, 1, 0, 0, 1)), 4);
    due("24", x.corners(makeRound()), 24);
  }

  private static void corner() {
    begin(8);
    due("corner(0, 0)", x.corner(0, 0), -1);
    due("corner(0, -1)", x.corner(0, -1), -1);
    refuses("corner of nothing", x.corner(make(), 0), -2, 0, 1);
    int one = make(-3, 8);
    hasCorners(one, -3, 8);
    refuses("corner(1, 1)", x.corner(one, 1), -2, -3, 8);
    refuses("corner(1, -1)", x.corner(one, -1), -2, -3, 8);
    hasCorners(make(3, 1, 2, 4, 1, 7), 1, 7, 3, 1);
    hasCorners(make(5, 2, 5, -1, 5, 0), 5, -1, 5, 2);
    // Of those of the least x the one of the least y is first; then on with the inside at the left.
    int square = make(10, 10, 0, 10, 10, 0, 0, 0, 0, 5, 5, 5, 10, 4);
    hasCorners(square, 0, 0, 10, 0, 10, 10, 0, 10);
    refuses("corner(square, 4)", x.corner(square, 4), -2, 0, 10);
    hasCorners(make(0, 3, 2, -1, 5, 1, 4, 5, 1, 6), 0, 3, 2, -1, 5, 1, 4, 5, 1, 6);
    // A corner that no longer is one goes when a point comes that hides it.
    int grows = make(0, 0, 1, 0, 0, 1);
    due("point", x.point(grows, -2, -2), 1);
    due("point", x.point(grows, 4, 0), 1);
    hasCorners(grows, -2, -2, 4, 0, 0, 1);
  }

  private static void beside() {
    begin(9);
    due("beside(0)", x.beside(0), -1);
    due("nothing", x.beside(make()), 0);
    due("a point", x.beside(make(2, 2)), 0);
    due("two", x.beside(make(2, 2, 3, 3)), 0);
    due("on one line", x.beside(make(0, 0, 6, 4, 3, 2, 9, 6)), 2);
    due("three", x.beside(make(0, 0, 6, 0, 0, 6)), 0);
    due("on each side, and inside", x.beside(make(0, 0, 6, 0, 0, 6, 2, 0, 3, 3, 0, 5, 1, 1, 2, 2)), 3);
    int last = make(0, 0, 6, 0, 0, 6, 0, 1, 0, 2, 0, 3);
    due("on the last side", x.beside(last), 3);
  }

  private static void area() {
    begin(10);
    due("area(0)", x.area(0), -1);
    due("nothing", x.area(make()), 0);
    due("a point", x.area(make(50, 50)), 0);
    due("a segment", x.area(make(-50, 50, 10, 20)), 0);
    due("a triangle", x.area(make(0, 0, 1, 0, 0, 1)), 1);
    due("far from 0", x.area(make(50, 50, 53, 50, 50, 54)), 12);
    due("other way round", x.area(make(0, 5, 5, 0, 0, 0)), 25);
    int all = make(-100, -100, 100, 100, -100, 100, 100, -100, 0, 0);
    due("the greatest", x.area(all), 80000);
  }

  private static void border() {
    begin(11);
    due("border(0)", x.border(0), -1);
    due("nothing", x.border(make()), 0);
    due("a point", x.border(make(1, 1)), 1);
    due("a segment of two", x.border(make(0, 0, 3, 2)), 2);
    due("a segment of four", x.border(make(-3, 6, 0, 0)), 4);
    due("a segment down", x.border(make(2, 5, 2, -5)), 11);
    due("a triangle", x.border(make(0, 0, 6, 0, 0, 4)), 12);
    due("a square", x.border(make(0, 0, 10, 0, 10, 10, 0, 10, 5, 5)), 40);
  }

  private static void inside() {
    begin(12);
    due("inside(0)", x.inside(0), -1);
    due("nothing", x.inside(make()), 0);
    due("a point", x.inside(make(1, 1)), 0);
    due("a segment", x.inside(make(0, 0, 30, 20)), 0);
    due("a small triangle", x.inside(make(0, 0, 1, 0, 0, 1)), 0);
    due("a triangle", x.inside(make(0, 0, 4, 0, 0, 3)), 3);
    due("a square", x.inside(make(0, 0, 10, 0, 10, 10, 0, 10)), 81);
    due("the greatest", x.inside(make(-100, -100, 100, -100, 100, 100, -100, 100)), 199 * 199);
  }

  private static void grown() {
    begin(13);
    due("grown(0, 0)", x.grown(0, 0), -1);
    due("grown(0, 7)", x.grown(0, 7), -1);
    int nothing = make();
    int one = make(30, 40);
    int line = make(0, 0, 4, 6);
    int flat = make(0, 0, 4, 0, 0, 3);
    for (int k = 0; k <= 6; k++) {
      due("nothing", x.grown(nothing, k), 0);
      due("a point", x.grown(one, k), 1);
      due("a segment", x.grown(line, k), 2 * k + 1);
      due("a triangle", x.grown(flat, k), 6 * k * k + 4 * k + 1);
    }
    due("k = -1", x.grown(flat, -1), -2);
    due("k = 7", x.grown(flat, 7), -2);
    due("k = 7 of nothing", x.grown(nothing, 7), -2);
    int all = make(-100, -100, 100, -100, 100, 100, -100, 100);
    due("the greatest", x.grown(all, 6), 1201 * 1201);
    int greater = x.sum(x.sum(all, all), all);
    due("three times the greatest", x.grown(greater, 6), 3601 * 3601);
  }

  private static void wide() {
    begin(14);
    due("wide(0)", x.wide(0), -1);
    due("nothing", x.wide(make()), -3);
    due("a point", x.wide(make(9, 9)), 0);
    due("two", x.wide(make(9, 9, 6, 5)), 25);
    due("three", x.wide(make(0, 0, 3, 0, 0, 4)), 25);
    due("not the last two", x.wide(make(0, 0, 9, 9, 1, 2, 2, 1)), 162);
    due("the greatest", x.wide(make(-100, -100, 5, 5, 100, 100)), 80000);
  }

  private static void width() {
    begin(15);
    due("width(0)", x.width(0), -1);
    int flat = make(0, 0, 4, 0, 0, 3);
    tells("a triangle", x.width(flat), 144, 25);
    refuses("nothing", x.width(make()), -3, 144, 25);
    tells("a point", x.width(make(5, 6)), 0, 1);
    tells("a triangle", x.width(flat), 144, 25);
    tells("a segment", x.width(make(5, 6, 9, 9, 13, 12)), 0, 1);
    tells("a square", x.width(make(0, 0, 10, 0, 10, 10, 0, 10)), 100, 1);
    tells("a slanted square", x.width(make(0, 1, 1, 0, 2, 1, 1, 2)), 2, 1);
    tells("a strip", x.width(make(-100, -1, 100, -1, 100, 1, -100, 1)), 4, 1);
    tells("very thin", x.width(make(-100, -100, 100, 99, 0, 0)), 10000, 79601);
  }

  private static void circle() {
    begin(16);
    due("circle(0, 0)", x.circle(0, 0), -1);
    due("circle(0, 3)", x.circle(0, 3), -1);
    int obtuse = make(-5, 0, 6, 0, 0, 1);
    tells("x of a long side", x.circle(obtuse, 0), 1, 2);
    tells("y of a long side", x.circle(obtuse, 1), 0, 1);
    tells("square of a long side", x.circle(obtuse, 2), 121, 4);
    int nothing = make();
    refuses("nothing, what = 0", x.circle(nothing, 0), -3, 121, 4);
    refuses("nothing, what = 3", x.circle(nothing, 3), -2, 121, 4);
    refuses("what = -1", x.circle(obtuse, -1), -2, 121, 4);
    refuses("what = 3", x.circle(obtuse, 3), -2, 121, 4);
    int one = make(-7, 0);
    tells("x of a point", x.circle(one, 0), -7, 1);
    tells("y of a point", x.circle(one, 1), 0, 1);
    tells("square of a point", x.circle(one, 2), 0, 1);
    int line = make(0, 0, 1, 1, -3, -3, 2, 2);
    tells("x of a segment", x.circle(line, 0), -1, 2);
    tells("y of a segment", x.circle(line, 1), -1, 2);
    tells("square of a segment", x.circle(line, 2), 25, 2);
    int right = make(0, 0, 4, 0, 0, 3);
    tells("x of a right angle", x.circle(right, 0), 2, 1);
    tells("y of a right angle", x.circle(right, 1), 3, 2);
    tells("square of a right angle", x.circle(right, 2), 25, 4);
    int acute = make(-2, 0, 2, 0, 0, 3);
    tells("x of three", x.circle(acute, 0), 0, 1);
    tells("y of three", x.circle(acute, 1), 5, 6);
    tells("square of three", x.circle(acute, 2), 169, 36);
    int low = make(-2, -40, 2, -40, 0, -43, 0, -41);
    tells("y of three below 0", x.circle(low, 1), -245, 6);
    tells("square of three below 0", x.circle(low, 2), 169, 36);
    int many = make(25, 0, 24, 7, 20, 15, 15, 20, 7, 24, 0, 25, -7, 24, -15, 20, -20, 15, -24, 7, -24, -7);
    tells("many on one circle", x.circle(many, 2), 625, 1);
    x = new HullSums();
    int large = make(-100, -100, 100, -100, 0, 99);
    int larger = x.sum(x.sum(large, large), large);
    tells("x of a large one", x.circle(larger, 0), 0, 1);
    tells("y of a large one", x.circle(larger, 1), -30597, 398);
    tells("square of a large one", x.circle(larger, 2), 22142332809L, 158404);
  }

  private static void sum() {
    begin(17);
    int flat = make(0, 0, 4, 0, 0, 3, 1, 1, 2, 0);
    int point = make(10, -20);
    int line = make(0, 0, 1, 1);
    due("with a point", x.sum(flat, point), 3);
    hasCorners(3, 10, -20, 14, -20, 10, -17);
    due("a set's points are its corners alone", x.points(3), 3);
    due("with a segment", x.sum(line, flat), 4);
    hasCorners(4, 0, 0, 4, 0, 5, 1, 1, 4, 0, 3);
    due("with itself", x.sum(flat, flat), 5);
    hasCorners(5, 0, 0, 8, 0, 0, 6);
    due("two points", x.sum(point, point), 6);
    hasCorners(6, 20, -40);
    due("a segment with itself", x.sum(line, line), 7);
    hasCorners(7, 0, 0, 2, 2);
    due("points(7)", x.points(7), 2);
    due("a ninth", x.sum(point, point), -5);
    due("told(0)", x.told(0), 8);

    begin(17);
    int up = make(0, 0, 0, 5);
    int down = make(3, 9, 3, 2);
    int aslant = make(0, 0, 2, -3);
    int back = make(1, 0, 0, 1);
    due("down and up", x.sum(up, down), 4);
    hasCorners(4, 3, 2, 3, 14);
    due("up and aslant", x.sum(up, aslant), 5);
    hasCorners(5, 0, 0, 2, -3, 2, 2, 0, 5);
    due("aslant and back", x.sum(aslant, back), 6);
    hasCorners(6, 0, 1, 2, -2, 3, -3, 1, 0);
    x.clear();
    int square = make(0, 0, 1, 0, 1, 1, 0, 1);
    int turned = make(0, 1, 1, 0, 2, 1, 1, 2);
    due("two squares", x.sum(square, turned), 2);
    hasCorners(2, 0, 1, 1, 0, 2, 0, 3, 1, 3, 2, 2, 3, 1, 3, 0, 2);
    // The points stand in the order of the corners; the set grows on from there.
    due("point(2, 0, 0)", x.point(2, 0, 0), 1);
    due("points(2)", x.points(2), 9);
    due("corners(2)", x.corners(2), 7);
    due("a sum of its own sets", x.sum(2, 2), 3);
    due("the parts stay", x.points(square) + x.points(turned), 8);
  }

  private static void sumRefused() {
    begin(17);
    due("no sets", x.sum(0, 0), -1);
    int nothing = make();
    int far = make(100, -100);
    due("a no set", x.sum(far, 2), -1);
    due("b no set", x.sum(-1, far), -1);
    due("no set before EMPTY", x.sum(nothing, 2), -1);
    due("a EMPTY", x.sum(nothing, far), -3);
    due("b EMPTY", x.sum(far, nothing), -3);
    due("200", x.sum(far, far), 2);
    due("300", x.sum(2, far), 3);
    hasCorners(3, 300, -300);
    due("400", x.sum(2, 2), -6);
    due("told(0)", x.told(0), 4);
    int beside = make(1, 0);
    due("x beyond", x.sum(3, beside), -6);
    int above = make(0, -1);
    due("y beyond", x.sum(above, 3), -6);
    int back = make(-1, 1);
    due("not beyond", x.sum(back, 3), 7);
    due("LARGE before FULL", x.sum(3, 3), -6);
    due("EMPTY before LARGE", x.sum(3, nothing), -3);
    due("FULL", x.sum(back, 3), -5);
    due("told(0)", x.told(0), 8);
    due("told(1)", x.told(1), 7);

    begin(17);
    int round = makeRound();
    due("24 corners", x.sum(round, round), 1);
    due("corners(1)", x.corners(1), 24);
    int other = make(0, 0, 5, 7);
    refuses("more than 24 points", x.sum(round, other), -5, 0, 1);
    due("told(0)", x.told(0), 3);
    due("told(1)", x.told(1), 50);
    int along = make(0, 0, 2, 2);
    due("24 again", x.sum(along, round), 4);
    due("points(4)", x.points(4), 24);
    due("mixed has no such limit", x.mixed(round, other) > 0 ? 1 : 0, 1);
  }

  private static void turned() {
    begin(18);
    due("turned(0)", x.turned(0), -1);
    int nothing = make();
    due("nothing", x.turned(nothing), -3);
    int flat = make(0, 0, 4, 0, 0, 3, 1, 1, 2, 0);
    due("a triangle", x.turned(flat), 2);
    hasCorners(2, -4, 0, 0, -3, 0, 0);
    due("points(2)", x.points(2), 3);
    due("points(1)", x.points(flat), 5);
    due("back again", x.turned(2), 3);
    hasCorners(3, 0, 0, 4, 0, 0, 3);
    int point = make(7, -9);
    due("a point", x.turned(point), 5);
    hasCorners(5, -7, 9);
    int line = make(1, 1, 3, 5, 2, 3);
    due("a segment", x.turned(line), 7);
    hasCorners(7, -3, -5, -1, -1);
    due("points(7)", x.points(7), 2);
    due("a ninth", x.turned(line), -5);
    due("EMPTY before FULL", x.turned(nothing), -3);
    due("told(0)", x.told(0), 8);
  }

  private static void meets() {
    begin(19);
    due("no sets", x.meets(0, 0), -1);
    int nothing = make();
    int square = make(0, 0, 10, 0, 10, 10, 0, 10);
    due("b no set", x.meets(nothing, 2), -1);
    due("a no set", x.meets(2, nothing), -1);
    due("a EMPTY", x.meets(nothing, square), -3);
    due("b EMPTY", x.meets(square, nothing), -3);
    due("itself", x.meets(square, square), 1);
    int inner = make(3, 3, 4, 3, 3, 4);
    due("within", x.meets(inner, square), 1);
    due("around", x.meets(square, inner), 1);
    int corner = make(10, 10, 12, 10, 10, 12);
    due("in a corner", x.meets(square, corner), 1);
    due("not", x.meets(inner, corner), 0);
    int cross = make(-5, 5, 15, 6);
    due("across, no corner in the other one", x.meets(square, cross), 1);
    int touch = make(0, 20, 20, 0);
    due("a line through a corner", x.meets(touch, square), 1);
    int past = make(0, 21, 21, 0);
    due("a line past a corner", x.meets(past, square), 0);
    x.clear();
    int a = make(0, 0, 4, 4);
    int b = make(0, 4, 4, 0);
    int c = make(5, 5, 9, 9);
    int d = make(4, 4, 8, 8);
    int on = make(3, 3);
    int off = make(3, 2);
    due("crossing segments", x.meets(a, b), 1);
    due("on one line, apart", x.meets(a, c), 0);
    due("on one line, end to end", x.meets(a, d), 1);
    due("on one line, one upon the other", x.meets(c, d), 1);
    due("a point on a segment", x.meets(on, a), 1);
    due("a point off a segment", x.meets(a, off), 0);
    due("two points", x.meets(on, off), 0);
    due("one point", x.meets(on, on), 1);
  }

  private static void apart() {
    begin(20);
    due("no sets", x.apart(0, 0), -1);
    int nothing = make();
    int square = make(0, 0, 10, 0, 10, 10, 0, 10);
    int far = make(13, 14);
    tells("corner to point", x.apart(square, far), 25, 1);
    refuses("a EMPTY", x.apart(nothing, square), -3, 25, 1);
    refuses("b EMPTY", x.apart(square, nothing), -3, 25, 1);
    refuses("b no set", x.apart(nothing, 9), -1, 25, 1);
    int side = make(5, 12, 8, 20, 2, 20);
    tells("side to corner", x.apart(side, square), 4, 1);
    tells("itself", x.apart(square, square), 0, 1);
    int past = make(0, 21, 21, 0);
    tells("a slanted line to a corner", x.apart(square, past), 1, 2);
    int parallel = make(13, -5, 13, 20);
    tells("parallel sides", x.apart(square, parallel), 9, 1);
    int inner = make(5, 5);
    tells("within", x.apart(inner, square), 0, 1);
    int thin = make(0, 0, 3, 1);
    tells("a point off a slanted line", x.apart(thin, inner), 20, 1);
    x.clear();
    int unit = make(0, 0, 1, 0, 1, 1, 0, 1);
    int right = make(2, 0, 2, 1, 7, 0);
    int over = make(0, 2, 1, 2, 0, 9);
    tells("by one in x", x.apart(right, unit), 1, 1);
    tells("by one in y", x.apart(over, unit), 1, 1);
    tells("by one in x, the other way", x.apart(unit, right), 1, 1);
    tells("by one in y, the other way", x.apart(unit, over), 1, 1);
    x.clear();
    int line = make(0, 0, 6, 4);
    int above = make(2, 3, 0, 8);
    tells("segment to the end of another one", x.apart(line, above), 25, 13);
    tells("the other way", x.apart(above, line), 25, 13);
    int on = make(9, 6, 12, 8);
    tells("on one line", x.apart(line, on), 13, 1);
    int one = make(-100, -100);
    int other = make(100, 100);
    tells("two points", x.apart(one, other), 80000, 1);
    int left = x.sum(x.sum(one, one), one);
    tells("three times as far", x.apart(left, other), 320000, 1);
  }

  private static void holds() {
    begin(21);
    due("no set", x.holds(0, 0, 0), -1);
    due("no set, far", x.holds(0, 1001, 0), -1);
    int nothing = make();
    due("nothing", x.holds(nothing, 0, 0), 0);
    int square = make(0, 0, 10, 0, 10, 10, 0, 10);
    due("inside", x.holds(square, 1, 9), 2);
    due("on a side", x.holds(square, 10, 9), 1);
    due("on the last side", x.holds(square, 0, 9), 1);
    due("a corner", x.holds(square, 0, 0), 1);
    due("on the line of a side", x.holds(square, 11, 10), 0);
    due("on the line of a side, before", x.holds(square, -1, 0), 0);
    due("outside", x.holds(square, 5, -1), 0);
    due("1000", x.holds(square, 1000, -1000), 0);
    due("x 1001", x.holds(square, 1001, 0), -2);
    due("x -1001", x.holds(square, -1001, 0), -2);
    due("y 1001", x.holds(nothing, 0, 1001), -2);
    due("y -1001", x.holds(square, 0, -1001), -2);
    int line = make(0, 0, 9, -6, 3, -2);
    due("on a segment", x.holds(line, 6, -4), 1);
    due("its end", x.holds(line, 9, -6), 1);
    due("beyond its end", x.holds(line, 12, -8), 0);
    due("before its start", x.holds(line, -3, 2), 0);
    due("off it", x.holds(line, 6, -3), 0);
    int down = make(4, 4, 4, 8);
    due("on a segment down", x.holds(down, 4, 5), 1);
    due("above it", x.holds(down, 4, 9), 0);
    due("below it", x.holds(down, 4, 3), 0);
    int one = make(-8, 8);
    due("a point", x.holds(one, -8, 8), 1);
    due("beside a point", x.holds(one, -8, 7), 0);
  }

  private static void supports() {
    begin(22);
    due("no set", x.supports(0, 101, 0), -1);
    int nothing = make();
    int square = make(0, 0, 10, 0, 10, 10, 0, 10, 10, 5);
    tells("1, 0", x.supports(square, 1, 0), 10, 2);
    tells("-1, 0", x.supports(square, -1, 0), 0, 2);
    tells("1, 1", x.supports(square, 1, 1), 20, 1);
    tells("0, 0", x.supports(square, 0, 0), 0, 4);
    tells("100, -100", x.supports(square, 100, -100), 1000, 1);
    refuses("nothing", x.supports(nothing, 1, 1), -3, 1000, 1);
    refuses("dx 101", x.supports(nothing, 101, 1), -2, 1000, 1);
    refuses("dx -101", x.supports(square, -101, 1), -2, 1000, 1);
    refuses("dy 101", x.supports(square, 1, 101), -2, 1000, 1);
    refuses("dy -101", x.supports(square, 1, -101), -2, 1000, 1);
    int low = make(-5, -5, -9, -5, -7, -5);
    tells("below 0", x.supports(low, 0, 3), -15, 2);
    tells("below 0, one", x.supports(low, 1, 0), -5, 1);
  }

  private static void mixed() {
    begin(23);
    due("no sets", x.mixed(0, 0), -1);
    int nothing = make();
    int square = make(0, 0, 10, 0, 10, 10, 0, 10);
    due("b no set", x.mixed(nothing, 2), -1);
    due("a EMPTY", x.mixed(nothing, square), -3);
    due("b EMPTY", x.mixed(square, nothing), -3);
    due("itself", x.mixed(square, square), 400);
    int point = make(50, 60);
    due("with a point", x.mixed(square, point), 0);
    int flat = make(0, 0, 4, 0, 0, 3);
    due("with a triangle", x.mixed(flat, square), 140);
    int line = make(0, 0, 0, 5);
    int other = make(0, 0, 3, 1);
    due("with a segment", x.mixed(square, line), 100);
    due("two segments", x.mixed(line, other), 30);
    due("one segment", x.mixed(line, line), 0);
    x.clear();
    int all = make(-100, -100, 100, -100, 100, 100, -100, 100);
    int greater = x.sum(x.sum(all, all), all);
    due("beyond what sum() takes", x.mixed(greater, greater), 1440000);
    for (int i = 0; i < 8; i++) x.set();
    due("when there are 8", x.mixed(all, all), 160000);
  }

  private static void nearest() {
    begin(24);
    due("no set", x.nearest(0), -1);
    due("nothing", x.nearest(make()), -3);
    due("a point", x.nearest(make(1, 1)), -3);
    due("two", x.nearest(make(1, 1, 4, 5)), 25);
    due("the first two", x.nearest(make(0, 0, 1, 1, 10, 0, 20, 9)), 2);
    due("the first and the third", x.nearest(make(0, 0, 50, 50, 0, 3, 90, 0)), 9);
    due("the last two", x.nearest(make(0, 0, 10, 0, 20, 9, 21, 11)), 5);
    due("no corners", x.nearest(make(0, 0, 40, 0, 0, 40, 10, 10, 12, 10)), 4);
    due("the greatest", x.nearest(make(-100, -100, 100, 100)), 80000);
  }

  private static void within() {
    begin(25);
    due("no sets", x.within(0, 0), -1);
    int nothing = make();
    int square = make(0, 0, 10, 0, 10, 10, 0, 10);
    due("a no set", x.within(2, nothing), -1);
    due("b no set", x.within(nothing, 2), -1);
    due("nothing in nothing", x.within(nothing, nothing), 1);
    due("nothing in all", x.within(nothing, square), 1);
    due("something in nothing", x.within(square, nothing), 0);
    due("itself", x.within(square, square), 1);
    int inner = make(0, 3, 4, 3, 3, 10);
    due("up to the border", x.within(inner, square), 1);
    due("the other way", x.within(square, inner), 0);
    int most = make(1, 1, 9, 9, 11, 5);
    due("all but one", x.within(most, square), 0);
    int first = make(11, 5, 1, 1, 9, 9);
    due("all but the first", x.within(first, square), 0);
    int line = make(0, 0, 9, 6);
    int part = make(3, 2, 6, 4);
    due("a part of a segment", x.within(part, line), 1);
    due("a segment in a square", x.within(part, square), 1);
    due("a square in a segment", x.within(square, part), 0);
    due("a segment in its part", x.within(line, part), 0);
  }

  private static void firstAndSecond() {
    begin(26);
    int set = make(2, 3, 6, 3, 2, 6);
    due("first()", x.first(), 0);
    tells("corner", x.corner(set, 1), 6, 3);
    // These tell nothing.
    x.set();
    x.point(set, 3, 4);
    x.points(set);
    x.kind(set);
    x.corners(set);
    x.beside(set);
    x.area(set);
    x.border(set);
    x.inside(set);
    x.grown(set, 2);
    x.wide(set);
    x.sum(set, set);
    x.turned(set);
    x.meets(set, set);
    x.holds(set, 3, 4);
    x.mixed(set, set);
    x.nearest(set);
    x.within(set, set);
    x.told(0);
    due("first()", x.first(), 6);
    due("first() again", x.first(), 6);
    due("second()", x.second(), 3);
    due("second() again", x.second(), 3);
    tells("width", x.width(set), 144, 25);
    due("second()", x.second(), 25);
    tells("apart", x.apart(set, set), 0, 1);
  }

  private static void told() {
    begin(28);
    due("told(0)", x.told(0), 0);
    due("told(1)", x.told(1), 0);
    due("told(2)", x.told(2), -2);
    due("told(-1)", x.told(-1), -2);
    make();
    make(1, 1, 2, 2);
    make(1, 1);
    due("told(0)", x.told(0), 3);
    due("told(1)", x.told(1), 3);
    x.sum(1, 2);
    due("told(0)", x.told(0), 4);
    due("told(1)", x.told(1), 5);
    x.sum(0, 1);
    due("told(1) after a refusal", x.told(1), 5);
  }

  /** A number that is no set is -1, before all other refusals. */
  private static void noSet() {
    begin(0);
    make(0, 0, 1, 0, 0, 1);
    tells("corner", x.corner(0, 1), 1, 0);
    int[] none = {-1, 1, 8, 9, Integer.MAX_VALUE, Integer.MIN_VALUE};
    for (int n : none) {
      due("point", x.point(n, 999, 999), -1);
      due("points", x.points(n), -1);
      due("kind", x.kind(n), -1);
      due("corners", x.corners(n), -1);
      due("corner", x.corner(n, 99), -1);
      due("beside", x.beside(n), -1);
      due("area", x.area(n), -1);
      due("border", x.border(n), -1);
      due("inside", x.inside(n), -1);
      due("grown", x.grown(n, 9), -1);
      due("wide", x.wide(n), -1);
      due("width", x.width(n), -1);
      due("circle", x.circle(n, 9), -1);
      due("sum", x.sum(n, 0), -1);
      due("sum", x.sum(0, n), -1);
      due("turned", x.turned(n), -1);
      due("meets", x.meets(n, 0), -1);
      due("meets", x.meets(0, n), -1);
      due("apart", x.apart(n, 0), -1);
      due("apart", x.apart(0, n), -1);
      due("holds", x.holds(n, 9999, 0), -1);
      due("supports", x.supports(n, 9999, 0), -1);
      due("mixed", x.mixed(n, 0), -1);
      due("mixed", x.mixed(0, n), -1);
      due("nearest", x.nearest(n), -1);
      due("within", x.within(n, 0), -1);
      due("within", x.within(0, n), -1);
    }
    due("told(0)", x.told(0), 1);
    due("told(1)", x.told(1), 3);
    due("first()", x.first(), 1);
    due("second()", x.second(), 0);
  }

  /** The ends of int are refused like other numbers that cannot be. */
  private static void farNumbers() {
    begin(0);
    make(0, 0, 1, 0, 0, 1);
    int[] far = {Integer.MAX_VALUE, Integer.MIN_VALUE};
    for (int n : far) {
      due("point", x.point(0, n, 0), -2);
      due("point", x.point(0, 0, n), -2);
      due("corner", x.corner(0, n), -2);
      due("grown", x.grown(0, n), -2);
      due("circle", x.circle(0, n), -2);
      due("holds", x.holds(0, n, 0), -2);
      due("holds", x.holds(0, 0, n), -2);
      due("supports", x.supports(0, n, 0), -2);
      due("supports", x.supports(0, 0, n), -2);
      due("told", x.told(n), -2);
    }
    due("points(0)", x.points(0), 3);
  }
}
