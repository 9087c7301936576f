import java.util.Random;

/** Runs of calls drawn by lot, from seeds that stay the same. */
public final class SlowModelTest extends Beside {
  private static final int RUNS = 2100;
  private static final int LARGE_RUNS = 300;

  private final Random random;
  private final int reach;
  private final int shape;
  private final int[] middles = new int[16];

  private SlowModelTest(int run) {
    super("run " + run);
    random = new Random(run);
    int[] reaches = {1, 2, 3, 6, 12, 30, 100};
    reach = reaches[run % reaches.length];
    shape = run / reaches.length % 7;
    for (int i = 0; i < middles.length; i++) middles[i] = among(-40, 40);
  }

  public static void main(String[] args) {
    for (int run = 0; run < RUNS; run++) new SlowModelTest(run).go();
    for (int run = RUNS; run < RUNS + LARGE_RUNS; run++) new SlowModelTest(run).goLarge();
    end();
  }

  private void go() {
    int rounds = among(1, 3);
    int length = MOST_ANSWERS / rounds;
    int begun = among(1, 4);
    int built = random.nextBoolean() ? length / 2 : among(8, 20);
    for (int i = 0; i < MOST_ANSWERS && goesOn(); i++) {
      int at = i % length;
      if (at == 0 && i > 0) empty();
      else if (at < begun) due("set", sums.set(), model.set());
      else if (at < built) addPoint();
      else one(random.nextInt(44));
    }
  }

  /** Two sets of few points far out, three times as great, where all numbers are greatest. */
  private void goLarge() {
    for (int set = 0; set < 2; set++) {
      due("set", sums.set(), model.set());
      for (int i = among(1, 5); i > 0; i--) {
        int x = random.nextInt(3) == 0 ? among(-100, 100) : random.nextBoolean() ? among(97, 100) : among(-100, -97);
        int y = random.nextInt(3) == 0 ? among(-100, 100) : random.nextBoolean() ? among(97, 100) : among(-100, -97);
        due("point", sums.point(set, x, y), model.point(set, x, y), set, x, y);
      }
    }
    int[] a = {0, 2, 1, 4};
    int[] b = {0, 0, 1, 1};
    for (int i = 0; i < a.length; i++) due("sum", sums.sum(a[i], b[i]), model.sum(a[i], b[i]), a[i], b[i]);
    for (int set = 3; set <= 5; set += 2) {
      for (int what = 0; what < 3; what++) due("circle", sums.circle(set, what), model.circle(set, what), set, what);
      due("width", sums.width(set), model.width(set), set);
      due("wide", sums.wide(set), model.wide(set), set);
      due("area", sums.area(set), model.area(set), set);
      due("grown", sums.grown(set, 6), model.grown(set, 6), set, 6);
      due("supports", sums.supports(set, 100, -100), model.supports(set, 100, -100), set, 100, -100);
    }
    due("meets", sums.meets(3, 5), model.meets(3, 5), 3, 5);
    due("apart", sums.apart(3, 5), model.apart(3, 5), 3, 5);
    due("mixed", sums.mixed(3, 5), model.mixed(3, 5), 3, 5);
    due("within", sums.within(5, 3), model.within(5, 3), 5, 3);
  }

  private void empty() {
    sums.clear();
    model.clear();
    due("clear", 0, 0);
  }

  private int among(int low, int high) { return low + random.nextInt(high - low + 1); }

  /** Mostly a set that is there, sometimes the numbers just beside them or far away. */
  private int someSet() {
    int n = model.sets.size();
    if (n > 0 && random.nextInt(25) != 0) return random.nextInt(n);
    int[] odd = {-1, n, n + 1, 8, 9, Integer.MAX_VALUE, Integer.MIN_VALUE};
    return odd[random.nextInt(odd.length)];
  }

  /** Mostly within a reach, sometimes on its end, just beyond, or far beyond. */
  private int near(int limit, int usual) {
    switch (random.nextInt(60)) {
      case 0: return limit;
      case 1: return -limit;
      case 2: return limit + 1;
      case 3: return -limit - 1;
      case 4: return random.nextBoolean() ? Integer.MAX_VALUE : Integer.MIN_VALUE;
      default: return among(-usual, usual);
    }
  }

  private void addPoint() {
    int set = someSet();
    boolean odd = random.nextInt(8) == 0;
    int x = odd ? near(100, reach) : among(-reach, reach);
    int y = odd ? near(100, reach) : among(-reach, reach);
    if (shape == 1) {
      // On few lines through one place, so that many points lie on one line.
      int t = among(-reach, reach);
      int[] dx = {1, 0, 1, 2, -1};
      int[] dy = {0, 1, 1, 1, 3};
      int line = (set & 7) % 5;
      x = Math.max(-100, Math.min(100, dx[line] * t));
      y = Math.max(-100, Math.min(100, dy[line] * t));
    } else if (shape == 2) {
      // On a bent row, so that nearly all points are corners.
      int t = among(-10, 10);
      x = random.nextBoolean() ? t : -t * t + 100;
      y = x == t ? t * t - 100 : t;
    } else if (shape == 3) {
      // On one circle, so that many triples have the least circle.
      int[] a = {25, 24, 20, 15, 7, 0};
      int[] b = {0, 7, 15, 20, 24, 25};
      int i = random.nextInt(a.length);
      x = random.nextBoolean() ? a[i] : -a[i];
      y = random.nextBoolean() ? b[i] : -b[i];
    } else if (shape == 4) {
      // Far out, so that sums grow large.
      x = random.nextInt(3) == 0 ? among(-100, 100) : random.nextBoolean() ? among(90, 100) : among(-100, -90);
      y = random.nextInt(3) == 0 ? among(-100, 100) : random.nextBoolean() ? among(90, 100) : among(-100, -90);
    } else if (shape == 5) {
      // About a middle of the set's own, so that hulls lie apart.
      x = middles[set & 7] + among(-reach, reach) / 2;
      y = middles[8 + (set & 7)] + among(-reach, reach) / 2;
    } else if (shape == 6) {
      // Each set on a bow of its own, so that sums have many corners.
      int t = among(-11, 11);
      int bend = t * t / (1 + (set & 1)) - 50;
      x = (set & 2) == 0 ? t : bend;
      y = (set & 2) == 0 ? bend : t;
    }
    due("point", sums.point(set, x, y), model.point(set, x, y), set, x, y);
  }

  private void one(int which) {
    int a = someSet();
    int b = someSet();
    switch (which) {
      case 0: if (random.nextInt(20) == 0) empty(); break;
      case 1: due("points", sums.points(a), model.points(a), a); break;
      case 2: due("kind", sums.kind(a), model.kind(a), a); break;
      case 3: due("corners", sums.corners(a), model.corners(a), a); break;
      case 4: case 5: case 6: {
        int i = near(24, 6);
        due("corner", sums.corner(a, i), model.corner(a, i), a, i);
        break;
      }
      case 7: case 8: due("beside", sums.beside(a), model.beside(a), a); break;
      case 9: due("area", sums.area(a), model.area(a), a); break;
      case 10: due("border", sums.border(a), model.border(a), a); break;
      case 11: due("inside", sums.inside(a), model.inside(a), a); break;
      case 12: case 13: {
        int k = among(-1, 7);
        due("grown", sums.grown(a, k), model.grown(a, k), a, k);
        break;
      }
      case 14: due("wide", sums.wide(a), model.wide(a), a); break;
      case 15: case 16: due("width", sums.width(a), model.width(a), a); break;
      case 17: case 18: case 19: {
        int what = among(-1, 3);
        due("circle", sums.circle(a, what), model.circle(a, what), a, what);
        break;
      }
      case 20: case 21: due("sum", sums.sum(a, b), model.sum(a, b), a, b); break;
      case 22: due("turned", sums.turned(a), model.turned(a), a); break;
      case 23: case 24: case 25: due("meets", sums.meets(a, b), model.meets(a, b), a, b); break;
      case 26: case 27: case 28: case 29: due("apart", sums.apart(a, b), model.apart(a, b), a, b); break;
      case 30: case 31: case 32: {
        int x = near(1000, random.nextInt(8) == 0 ? 300 : reach);
        int y = near(1000, random.nextInt(8) == 0 ? 300 : reach);
        due("holds", sums.holds(a, x, y), model.holds(a, x, y), a, x, y);
        break;
      }
      case 33: case 34: {
        int usual = random.nextBoolean() ? 2 : 100;
        int dx = near(100, usual);
        int dy = near(100, usual);
        due("supports", sums.supports(a, dx, dy), model.supports(a, dx, dy), a, dx, dy);
        break;
      }
      case 35: case 36: due("mixed", sums.mixed(a, b), model.mixed(a, b), a, b); break;
      case 37: due("nearest", sums.nearest(a), model.nearest(a), a); break;
      case 38: case 39: due("within", sums.within(a, b), model.within(a, b), a, b); break;
      case 40: {
        int what = among(-1, 2);
        due("told", sums.told(what), model.told(what), what);
        break;
      }
      case 41: if (random.nextInt(3) == 0) due("set", sums.set(), model.set()); break;
      default: if (random.nextInt(4) == 0) addPoint();
    }
  }
}
