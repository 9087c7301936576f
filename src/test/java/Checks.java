/** What the tests by hand share: the object they call, answers held against those due, sets of chosen points. */
abstract class Checks {
  /** Directions of sides, x and y in turn, from level to level; none of the one is among the other. */
  static final int[] ROUND_SIDES = {1, 0, 3, 1, 2, 1, 1, 1, 1, 2, 1, 3, 0, 1, -1, 3, -1, 2, -1, 1, -2, 1, -3, 1};
  static final int[] OTHER_SIDES = {4, 1, 3, 2, 4, 3, 3, 4, 2, 3, 1, 4, -1, 4, -2, 3, -3, 4, -4, 3, -3, 2, -4, 1};

  static HullSums x = new HullSums();
  private static int wrong = 0;
  private static int begun = 0;
  private static String about = "";

  /** A new object, for a promise by its number or for the terms, 0. */
  static void begin(int promise) {
    about = promise == 0 ? "terms" : "promise " + promise;
    x = new HullSums();
    begun++;
  }

  /** A new object, for one sentence of a promise. */
  static void begin(int promise, String sentence) {
    begin(promise);
    about += ", \"" + sentence + "\"";
  }

  static void end() {
    System.out.println(begun + " tests, " + wrong + " answers are not as due");
    if (wrong != 0) System.exit(1);
  }

  static void due(String call, long got, long want) {
    if (got != want) wrong(call + " answered " + got + ", due is " + want);
  }

  static void wrong(String what) {
    wrong++;
    System.out.println(about + ": " + what);
  }

  static void hasTold(String call, long first, long second) {
    due("first() after " + call, x.first(), first);
    due("second() after " + call, x.second(), second);
  }

  static void tells(String call, int got, long first, long second) {
    due(call, got, 1);
    hasTold(call, first, second);
  }

  /** A refusal tells nothing: what was told before stays. */
  static void refuses(String call, int got, int want, long first, long second) {
    due(call, got, want);
    hasTold(call, first, second);
  }

  /** A new set of these points, x and y in turn. */
  static int make(int... xy) {
    int set = x.set();
    for (int i = 0; i + 1 < xy.length; i += 2) due("point", x.point(set, xy[i], xy[i + 1]), 1);
    return set;
  }

  /** New sets, EMPTY, until there are so many. */
  static void makeEmptyUpTo(int sets) {
    for (int i = x.told(0); i < sets; i++) due("set()", x.set(), i);
  }

  /** A new set of so many points side by side on the line y = 0, from 0, 0 on. */
  static int makeLine(int points) {
    int set = x.set();
    for (int i = 0; i < points; i++) due("point", x.point(set, i, 0), 1);
    return set;
  }

  /** 24 corners, 0, -10 one of the two lowest: the greatest x is 9, at y = -2 and -1. */
  static int makeRound() {
    return makeRound(ROUND_SIDES, 0, -10);
  }

  /** A set whose corners are reached from the lowest one by these directions and then by their opposites. */
  static int makeRound(int[] directions, int lowestX, int lowestY) {
    int set = x.set();
    int px = lowestX;
    int py = lowestY;
    for (int sign = 1; sign >= -1; sign -= 2) {
      for (int i = 0; i + 1 < directions.length; i += 2) {
        due("point", x.point(set, px, py), 1);
        px += sign * directions[i];
        py += sign * directions[i + 1];
      }
    }
    return set;
  }

  /** The set of one point, three times as far from 0 as x and y: 300 at most. */
  static int makeThreeTimes(int px, int py) {
    int once = make(px, py);
    return x.sum(x.sum(once, once), once);
  }

  /** A set's corners are just these, x and y in turn. */
  static void hasCorners(int set, int... xy) {
    due("corners(" + set + ")", x.corners(set), xy.length / 2);
    for (int i = 0; i + 1 < xy.length; i += 2) {
      tells("corner(" + set + ", " + i / 2 + ")", x.corner(set, i / 2), xy[i], xy[i + 1]);
    }
  }
}
