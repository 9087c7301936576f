import java.util.function.ToIntFunction;

/**
 * What the terms say of refusals, for each refusal of each call: the first in the order is the answer, nothing
 * changes, nothing is told. Each is called on one of two objects made alike, and both must be alike still.
 */
public final class RefusalsTest extends Checks {
  private static final int[] NO_SETS = {-1, 8, 9, Integer.MAX_VALUE, Integer.MIN_VALUE};
  private static final int EMPTY = 0;
  private static final int ROUND = 1;
  private static final int FAR = 4;
  private static final int SKEW = 5;
  private static final int ONE = 6;
  private static final int LINE = 7;

  public static void main(String[] args) {
    begin(0, "-1 a number that is no set");
    for (int no : NO_SETS) noSet(no);
    noSetYet();
    begin(0, "of several the first in this order: -1, -2");
    for (int no : NO_SETS) noSetAndOutside(no);
    begin(0, "of several the first in this order: -1, -3");
    for (int no : NO_SETS) noSetAndState(no);
    begin(0, "of several the first in this order: -1, -5");
    for (int no : NO_SETS) noSetAndFull(no);
    outside();
    outsideAndState();
    outsideAndFull();
    state();
    stateAndFull();
    full();
    large();
    largeAndFull();
    end();
  }

  /** 8 sets of all kinds, the last told numbers far from 0 and 1. */
  private static HullSums makeEight() {
    x = new HullSums();
    make();
    makeRound();
    make(100, -100);
    x.sum(2, 2);
    x.sum(3, 2);
    make(0, 0, 3, 1, 3, 2);
    make(-8, 9);
    make(5, 5, 1, 1, 3, 3);
    x.supports(SKEW, 7, 3);
    return x;
  }

  /** The same but for the last set, so that there is room for one. */
  private static HullSums makeSeven() {
    x = new HullSums();
    make();
    makeRound();
    make(100, -100);
    x.sum(2, 2);
    x.sum(3, 2);
    make(0, 0, 3, 1, 3, 2);
    make(-8, 9);
    x.supports(SKEW, 7, 3);
    return x;
  }

  private static void refused(String call, int want, ToIntFunction<HullSums> one) {
    compare(call, want, one, makeEight(), makeEight());
  }

  private static void refusedOfSeven(String call, int want, ToIntFunction<HullSums> one) {
    compare(call, want, one, makeSeven(), makeSeven());
  }

  private static void compare(String call, int want, ToIntFunction<HullSums> one, HullSums called, HullSums other) {
    due(call, one.applyAsInt(called), want);
    String is = allOf(called);
    String was = allOf(other);
    if (!is.equals(was)) {
      wrong("\"What is refused changes nothing, and tells nothing\": " + call + " made " + was + " into " + is);
    }
  }

  /** All that can be seen of an object; told first, as looking at corners tells. */
  private static String allOf(HullSums h) {
    StringBuilder s = new StringBuilder();
    s.append(h.first()).append(' ').append(h.second()).append(' ').append(h.told(0)).append(' ').append(h.told(1));
    for (int set = 0; set < h.told(0); set++) {
      s.append("; ").append(h.points(set)).append(' ').append(h.beside(set)).append(' ').append(h.wide(set));
      s.append(' ').append(h.nearest(set));
      for (int i = 0; i < h.corners(set); i++) {
        h.corner(set, i);
        s.append(", ").append(h.first()).append(' ').append(h.second());
      }
    }
    return s.append("; the next set is ").append(h.set()).toString();
  }

  private static void noSet(int no) {
    refused("point", -1, h -> h.point(no, 0, 0));
    refused("points", -1, h -> h.points(no));
    refused("kind", -1, h -> h.kind(no));
    refused("corners", -1, h -> h.corners(no));
    refused("corner", -1, h -> h.corner(no, 0));
    refused("beside", -1, h -> h.beside(no));
    refused("area", -1, h -> h.area(no));
    refused("border", -1, h -> h.border(no));
    refused("inside", -1, h -> h.inside(no));
    refused("grown", -1, h -> h.grown(no, 1));
    refused("wide", -1, h -> h.wide(no));
    refused("width", -1, h -> h.width(no));
    refused("circle", -1, h -> h.circle(no, 0));
    refusedOfSeven("sum, a", -1, h -> h.sum(no, SKEW));
    refusedOfSeven("sum, b", -1, h -> h.sum(SKEW, no));
    refusedOfSeven("sum, both", -1, h -> h.sum(no, no));
    refusedOfSeven("turned", -1, h -> h.turned(no));
    refused("meets, a", -1, h -> h.meets(no, SKEW));
    refused("meets, b", -1, h -> h.meets(SKEW, no));
    refused("apart, a", -1, h -> h.apart(no, SKEW));
    refused("apart, b", -1, h -> h.apart(SKEW, no));
    refused("holds", -1, h -> h.holds(no, 0, 0));
    refused("supports", -1, h -> h.supports(no, 1, 0));
    refused("mixed, a", -1, h -> h.mixed(no, SKEW));
    refused("mixed, b", -1, h -> h.mixed(SKEW, no));
    refused("nearest", -1, h -> h.nearest(no));
    refused("within, a", -1, h -> h.within(no, SKEW));
    refused("within, b", -1, h -> h.within(SKEW, no));
    refused("within, a, b EMPTY", -1, h -> h.within(no, EMPTY));
    refused("within, b, a EMPTY", -1, h -> h.within(EMPTY, no));
  }

  /** Of eight sets that may be, those that are not there yet are no sets. */
  private static void noSetYet() {
    begin(0, "-1 a number that is no set");
    refusedOfSeven("points(7)", -1, h -> h.points(7));
    refusedOfSeven("point(7)", -1, h -> h.point(7, 0, 0));
    refusedOfSeven("circle(7)", -1, h -> h.circle(7, 0));
    refusedOfSeven("turned(7)", -1, h -> h.turned(7));
    refusedOfSeven("sum(7)", -1, h -> h.sum(SKEW, 7));
    refusedOfSeven("within(7)", -1, h -> h.within(7, SKEW));
  }

  private static void noSetAndOutside(int no) {
    refused("point", -1, h -> h.point(no, 101, -101));
    refused("corner", -1, h -> h.corner(no, 24));
    refused("grown", -1, h -> h.grown(no, 7));
    refused("circle", -1, h -> h.circle(no, 3));
    refused("holds", -1, h -> h.holds(no, 1001, -1001));
    refused("supports", -1, h -> h.supports(no, 101, -101));
  }

  private static void noSetAndState(int no) {
    refusedOfSeven("sum, a", -1, h -> h.sum(no, EMPTY));
    refusedOfSeven("sum, b", -1, h -> h.sum(EMPTY, no));
    refused("meets, a", -1, h -> h.meets(no, EMPTY));
    refused("meets, b", -1, h -> h.meets(EMPTY, no));
    refused("apart, a", -1, h -> h.apart(no, EMPTY));
    refused("apart, b", -1, h -> h.apart(EMPTY, no));
    refused("mixed, a", -1, h -> h.mixed(no, EMPTY));
    refused("mixed, b", -1, h -> h.mixed(EMPTY, no));
  }

  private static void noSetAndFull(int no) {
    refused("sum, a", -1, h -> h.sum(no, SKEW));
    refused("sum, b", -1, h -> h.sum(SKEW, no));
    refused("turned", -1, h -> h.turned(no));
  }

  private static void outside() {
    begin(0, "-2 OUTSIDE (another number that cannot be)");
    int[] far = {101, -101, Integer.MAX_VALUE, Integer.MIN_VALUE};
    for (int n : far) {
      refused("point, x", -2, h -> h.point(SKEW, n, 0));
      refused("point, y", -2, h -> h.point(SKEW, 0, n));
      refused("corner", -2, h -> h.corner(SKEW, n));
      refused("grown", -2, h -> h.grown(SKEW, n));
      refused("circle", -2, h -> h.circle(SKEW, n));
      refused("supports, dx", -2, h -> h.supports(SKEW, n, 0));
      refused("supports, dy", -2, h -> h.supports(SKEW, 0, n));
      refused("told", -2, h -> h.told(n));
    }
    int[] farther = {1001, -1001, Integer.MAX_VALUE, Integer.MIN_VALUE};
    for (int n : farther) {
      refused("holds, x", -2, h -> h.holds(SKEW, n, 0));
      refused("holds, y", -2, h -> h.holds(SKEW, 0, n));
    }
    refused("corner 3 of three", -2, h -> h.corner(SKEW, 3));
    refused("corner -1", -2, h -> h.corner(SKEW, -1));
    refused("corner 0 of nothing", -2, h -> h.corner(EMPTY, 0));
    refused("grown by 7", -2, h -> h.grown(SKEW, 7));
    refused("grown by -1", -2, h -> h.grown(SKEW, -1));
    refused("circle, what = 3", -2, h -> h.circle(SKEW, 3));
    refused("circle, what = -1", -2, h -> h.circle(SKEW, -1));
    refused("told, what = 2", -2, h -> h.told(2));
    refused("told, what = -1", -2, h -> h.told(-1));
  }

  private static void outsideAndState() {
    begin(0, "of several the first in this order: -2, -3");
    refused("circle, what = 3", -2, h -> h.circle(EMPTY, 3));
    refused("circle, what = -1", -2, h -> h.circle(EMPTY, -1));
    refused("supports, dx", -2, h -> h.supports(EMPTY, 101, 0));
    refused("supports, dy", -2, h -> h.supports(EMPTY, 0, -101));
  }

  private static void outsideAndFull() {
    begin(0, "of several the first in this order: -2, -5");
    refused("point, x", -2, h -> h.point(ROUND, 101, 0));
    refused("point, y", -2, h -> h.point(ROUND, 0, -101));
  }

  private static void state() {
    begin(0, "-3 STATE");
    refused("wide", -3, h -> h.wide(EMPTY));
    refused("width", -3, h -> h.width(EMPTY));
    for (int what = 0; what < 3; what++) {
      int which = what;
      refused("circle", -3, h -> h.circle(EMPTY, which));
    }
    refusedOfSeven("sum, a", -3, h -> h.sum(EMPTY, SKEW));
    refusedOfSeven("sum, b", -3, h -> h.sum(SKEW, EMPTY));
    refusedOfSeven("sum, both", -3, h -> h.sum(EMPTY, EMPTY));
    refusedOfSeven("turned", -3, h -> h.turned(EMPTY));
    refused("meets, a", -3, h -> h.meets(EMPTY, SKEW));
    refused("meets, b", -3, h -> h.meets(SKEW, EMPTY));
    refused("meets, both", -3, h -> h.meets(EMPTY, EMPTY));
    refused("apart, a", -3, h -> h.apart(EMPTY, SKEW));
    refused("apart, b", -3, h -> h.apart(SKEW, EMPTY));
    refused("apart, both", -3, h -> h.apart(EMPTY, EMPTY));
    refused("supports", -3, h -> h.supports(EMPTY, 1, 0));
    refused("mixed, a", -3, h -> h.mixed(EMPTY, SKEW));
    refused("mixed, b", -3, h -> h.mixed(SKEW, EMPTY));
    refused("mixed, both", -3, h -> h.mixed(EMPTY, EMPTY));
    refused("nearest of nothing", -3, h -> h.nearest(EMPTY));
    refused("nearest of one", -3, h -> h.nearest(ONE));
  }

  private static void stateAndFull() {
    begin(17, "The order is: -1, -3, -6, -5");
    refused("sum, a", -3, h -> h.sum(EMPTY, LINE));
    refused("sum, b", -3, h -> h.sum(LINE, EMPTY));
    begin(18, "-3: the set is EMPTY; -5: there are 8");
    refused("turned", -3, h -> h.turned(EMPTY));
  }

  private static void full() {
    begin(0, "-5 FULL");
    refused("set", -5, HullSums::set);
    refused("point", -5, h -> h.point(ROUND, 0, 0));
    refused("sum", -5, h -> h.sum(LINE, SKEW));
    refused("turned", -5, h -> h.turned(SKEW));
    refusedOfSeven("sum of more than 24 points", -5, h -> h.sum(ROUND, SKEW));
    refusedOfSeven("sum of more than 24 points, the other way", -5, h -> h.sum(SKEW, ROUND));
  }

  private static void large() {
    begin(0, "-6 LARGE");
    refusedOfSeven("sum", -6, h -> h.sum(FAR, FAR));
    refusedOfSeven("sum, x beyond by 3", -6, h -> h.sum(FAR, SKEW));
    refusedOfSeven("sum, x beyond by 3, the other way", -6, h -> h.sum(SKEW, FAR));
  }

  private static void largeAndFull() {
    begin(17, "The order is: -1, -3, -6, -5");
    refused("sum", -6, h -> h.sum(FAR, FAR));
    refused("sum, x beyond by 3", -6, h -> h.sum(SKEW, FAR));
    // 24 corners as far out as may be; the triangle would make 25 of them, and lead beyond.
    begin(17, "The order is: -1, -3, -6, -5");
    int round = makeRound();
    int hundred = make(100, 0);
    int less = make(91, 0);
    int out = x.sum(round, x.sum(x.sum(hundred, hundred), less));
    tells("as far out as may be", x.supports(out, 1, 0), 300, 2);
    int skew = make(0, 0, 3, 1, 3, 2);
    due("beyond 300, and 25 points", x.sum(out, skew), -6);
    due("beyond 300, and 25 points, the other way", x.sum(skew, out), -6);
    int back = x.turned(skew);
    due("8 sets, beyond 300, and 25 points", x.sum(out, skew), -6);
    due("8 sets and 25 points, not beyond 300", x.sum(out, back), -5);
  }
}
