/** Every set of points of a square of 3 by 3, and every two of them, the second one moved in one of three ways. */
public final class SmallSetsTest extends Beside {
  private static final int SIDE = 3;
  private static final int CHOICES = 1 << SIDE * SIDE;
  private static final int[] MOVED_X = {0, 2, 4};
  private static final int[] MOVED_Y = {0, 1, -3};

  private SmallSetsTest(String run) { super(run); }

  public static void main(String[] args) {
    for (int a = 0; a < CHOICES; a++) {
      new SmallSetsTest("choice " + a).goAlone(a);
      new SmallSetsTest("choice " + a + " turned").goTurned(a);
    }
    for (int a = 0; a < CHOICES; a++) {
      for (int b = 0; b < CHOICES; b++) {
        int moved = (a + b) % MOVED_X.length;
        new SmallSetsTest("choices " + a + ", " + b).goTogether(a, b, MOVED_X[moved], MOVED_Y[moved]);
      }
    }
    end();
  }

  /** A new set of the points whose bits are in the choice. */
  private void make(int choice, int movedX, int movedY) {
    int set = model.set();
    due("set", sums.set(), set);
    for (int bit = 0; bit < SIDE * SIDE; bit++) {
      if ((choice >> bit & 1) == 0) continue;
      int x = movedX + bit % SIDE;
      int y = movedY + bit / SIDE;
      due("point", sums.point(set, x, y), model.point(set, x, y), set, x, y);
    }
  }

  private void goAlone(int choice) {
    make(choice, -1, -2);
    looksAt(0);
  }

  private void goTurned(int choice) {
    make(choice, -1, -2);
    due("turned", sums.turned(0), model.turned(0), 0);
    if (model.sets.size() > 1) looksAt(1);
  }

  private void looksAt(int set) {
    due("points", sums.points(set), model.points(set), set);
    due("kind", sums.kind(set), model.kind(set), set);
    looksAtCorners(set);
    due("beside", sums.beside(set), model.beside(set), set);
    due("area", sums.area(set), model.area(set), set);
    due("border", sums.border(set), model.border(set), set);
    due("inside", sums.inside(set), model.inside(set), set);
    due("wide", sums.wide(set), model.wide(set), set);
    due("width", sums.width(set), model.width(set), set);
    due("nearest", sums.nearest(set), model.nearest(set), set);
    for (int what = 0; what <= 2; what++) due("circle", sums.circle(set, what), model.circle(set, what), set, what);
    for (int k = 0; k <= 6; k++) due("grown", sums.grown(set, k), model.grown(set, k), set, k);
    for (int x = -3; x <= 3; x++) {
      for (int y = -3; y <= 3; y++) {
        due("holds", sums.holds(set, x, y), model.holds(set, x, y), set, x, y);
        due("supports", sums.supports(set, x, y), model.supports(set, x, y), set, x, y);
      }
    }
  }

  private void looksAtCorners(int set) {
    due("corners", sums.corners(set), model.corners(set), set);
    for (int i = -1; i <= SIDE * SIDE && goesOn(); i++) due("corner", sums.corner(set, i), model.corner(set, i), set, i);
  }

  private void goTogether(int a, int b, int movedX, int movedY) {
    if (!goesOn()) return;
    make(a, 0, 0);
    make(b, movedX, movedY);
    due("meets", sums.meets(0, 1), model.meets(0, 1), 0, 1);
    due("apart", sums.apart(0, 1), model.apart(0, 1), 0, 1);
    due("within", sums.within(0, 1), model.within(0, 1), 0, 1);
    due("mixed", sums.mixed(0, 1), model.mixed(0, 1), 0, 1);
    due("sum", sums.sum(0, 1), model.sum(0, 1), 0, 1);
    if (model.sets.size() > 2) {
      due("points", sums.points(2), model.points(2), 2);
      looksAtCorners(2);
    }
  }
}
