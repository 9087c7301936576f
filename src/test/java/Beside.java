import java.util.Arrays;

/** The program and the slow model, called alike: each answer, and what is told, must be the same. */
abstract class Beside {
  /** Each answer takes three of the object's 512 calls: the call itself, first() and second(). */
  static final int MOST_ANSWERS = 512 / 3;

  private static int wrong = 0;
  private static long calls = 0;

  final HullSums sums = new HullSums();
  final SlowModel model = new SlowModel();
  private final String run;
  private int answers = 0;
  private int wrongHere = 0;

  Beside(String run) { this.run = run; }

  static void end() {
    System.out.println(calls + " calls beside the slow model, " + wrong + " answers are not as due");
    if (wrong != 0) System.exit(1);
  }

  /** Whether so few answers were wrong that it is worth while to go on. */
  final boolean goesOn() { return wrongHere < 5 && wrong < 100; }

  final void due(String call, int got, int want, int... with) {
    calls++;
    answers++;
    if (answers > MOST_ANSWERS) say(call, with, "is one call too many: what it answers is free");
    if (got != want) say(call, with, "answered " + got + ", due is " + want);
    if (sums.first() != model.first || sums.second() != model.second) {
      say(call, with, "told " + sums.first() + ", " + sums.second()
          + ", due is " + model.first + ", " + model.second);
    }
  }

  private void say(String call, int[] with, String what) {
    wrong++;
    wrongHere++;
    System.out.println(run + ": " + call + Arrays.toString(with) + " " + what + "; the sets: " + model.sets);
  }
}
