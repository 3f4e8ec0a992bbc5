/** Promise 6: run. What each instruction does is in the Terms tests. */
public final class Promise06Test {
  private static final int NONE = RedoMachine.NONE;
  private static final int MIN = Integer.MIN_VALUE;
  private static final int MAX = Integer.MAX_VALUE;

  public static void main(String[] args) {
    Sentences.testAll(Promise06Test.class);
  }

  /** Five steps, two solutions: 1 and 2. */
  private static Bench twoSolutions() {
    Bench b = new Bench();
    int p = b.again(1, 0, 0);
    b.redo(p, 3);
    b.number(p, 0, 1);
    b.exit(p);
    b.number(p, 0, 2);
    b.exit(p);
    b.begin(p);
    return b;
  }

  @Sentence(of = "Promise 6", says = "STEPS until the STATE is not 0")
  static void untilStateIsNotZero(Check check) {
    for (int n : new int[] {3, 4, 20000, MAX}) {
      Bench b = twoSolutions();
      check.due("run " + n, b.run(n), 1);
      check.due("no step behind the solution", b.told(), "1 3 6 6 0 0 1 1 1");
    }
    int[] steps = {0, 0, 0, 20000, 14, 12, 3};
    for (int state = 3; state <= 6; state++) {
      check.due("steps to STATE " + state, Bench.inState(state).told(1), steps[state]);
    }
  }

  @Sentence(of = "Promise 6", says = "or n were done by this call")
  static void untilDone(Check check) {
    Bench b = twoSolutions();
    check.due("run 1", b.run(1), 0);
    check.due("steps", b.told(1), 1);
    check.due("run 1 again", b.run(1), 0);
    check.due("steps", b.told(1), 2);
    check.due("the step's work is done", b.slot(0), 1);
    check.due("run 1 into the solution", b.run(1), 1);
    check.due("steps", b.told(1), 3);

    Bench c = twoSolutions();
    check.due("run 2", c.run(2), 0);
    check.due("steps", c.told(1), 2);

    Bench d = new Bench();
    int p = d.again(1, 0);
    d.go(p, 0);
    d.begin(p);
    int done = 0;
    for (int n : new int[] {1, 2, 3, 100, 9999, 9895}) {
      done += n;
      check.due("run " + n, d.run(n), 0);
      check.due("steps of all", d.told(1), done);
    }
  }

  @Sentence(of = "Promise 6", says = "from STATE 1 it FAILS first (no STEP)")
  static void failsFirstFromSolution(Check check) {
    Bench b = twoSolutions();
    b.run(3);
    check.due("run 1: it fails, then a step", b.run(1), 0);
    check.due("told", b.told(), "0 4 3 6 0 0 1 0 1");
    check.due("the step behind the redo point", b.slot(0), 2);
    check.due("the second solution", b.run(1), 1);
    check.due("its OUT", b.text(0), "2");
    check.due("no more", b.run(1), 2);
    check.due("no step in failing", b.told(), "2 5 3 6 0 0 2 0 1");

    Bench c = twoSolutions();
    c.run(3);
    check.due("run 2: it fails, then both steps", c.run(2), 1);
    check.due("steps", c.told(1), 5);

    Bench dead = new Bench();
    int p = dead.again(1, 0, 0);
    dead.redo(p, 2);
    dead.drop(p, 0);
    dead.exit(p);
    dead.begin(p);
    check.due("a solution above a dead redo point", dead.run(9), 1);
    check.due("it fails through that", dead.run(9), 2);
    check.due("told", dead.told(), "2 3 3 6 0 0 1 0 1");
  }

  @Sentence(of = "Promise 6", says = "Nothing in other STATES")
  static void nothingInOtherStates(Check check) {
    for (int state : new int[] {NONE, 2, 3, 4, 5, 6}) {
      Bench b = Bench.inState(state);
      String told = b.told();
      for (int n : new int[] {1, 2, 20000, MAX, 0, MIN}) {
        check.due("run " + n + " in STATE " + state, b.run(n), state);
      }
      check.due("told as before in STATE " + state, b.told(), told);
    }
  }

  @Sentence(of = "Promise 6", says = "or when n is below 1")
  static void nothingBelowOne(Check check) {
    for (int n : new int[] {0, -1, -2, MIN}) {
      Bench b = twoSolutions();
      check.due("run " + n + " at the start", b.run(n), 0);
      check.due("told", b.told(), "0 0 3 3 0 0 0 0 1");
      b.run(2);
      check.due("run " + n + " on the way", b.run(n), 0);
      check.due("told", b.told(), "0 2 6 6 0 0 0 1 1");
      b.run(1);
      check.due("run " + n + " from the solution", b.run(n), 1);
      check.due("told", b.told(), "1 3 6 6 0 0 1 1 1");
      check.due("the solution is there still", b.text(0), "1");
    }
  }

  @Sentence(of = "Promise 6", says = "The STATE")
  static void answersTheState(Check check) {
    for (int state = NONE; state <= 6; state++) {
      Bench b = Bench.inState(state);
      check.due("run 0 in STATE " + state, b.run(0), state);
      check.due("told 0 in STATE " + state, b.told(0), state);
    }
  }

  @Sentence(of = "Promise 6 and Terms",
      says = "3 OUT OF FUEL (another STEP would be done when 20,000 were since begin())")
  static void outOfFuel(Check check) {
    Bench b = new Bench();
    int p = b.again(1, 0);
    b.go(p, 0);
    b.begin(p);
    check.due("run 19,999", b.run(19999), 0);
    check.due("step 20,000", b.run(1), 0);
    check.due("steps", b.told(1), 20000);
    check.due("no other is asked for", b.run(0), 0);
    check.due("another", b.run(1), 3);
    check.due("it was not done", b.told(1), 20000);
    b.begin(p);
    check.due("20,000 at once", b.run(20000), 0);
    b.begin(p);
    check.due("20,001 at once", b.run(20001), 3);
    check.due("steps", b.told(1), 20000);
    b.begin(p);
    check.due("MAX at once", b.run(MAX), 3);
    check.due("steps", b.told(1), 20000);
    b.begin(p);
    check.due("the fuel is there anew", b.run(20000), 0);
  }

  /** A machine whose step 20,000 is an EXIT, a solution, with or without a redo point below. */
  private static Bench exitAtLastStep(boolean redo) {
    Bench b = new Bench();
    int p = b.again(4, 1, 3);
    int end = b.loop(p);
    if (redo) b.redo(p, end);
    else b.number(p, 2, 0);
    b.number(p, 2, 0);
    b.exit(p);
    // 9 steps for each turn, 8 ahead of the end, 3 there
    b.begin(p, 2221);
    return b;
  }

  @Sentence(of = "Promise 6 and Terms",
      says = "3 OUT OF FUEL (another STEP would be done when 20,000 were since begin())",
      where = "a SOLUTION in the last STEP, and it FAILS behind it")
  static void solutionAtTheLastStep(Check check) {
    Bench b = exitAtLastStep(false);
    check.due("a solution", b.run(MAX), 1);
    check.due("at step 20,000", b.told(1), 20000);
    check.due("no more, by no step", b.run(1), 2);
    check.due("steps", b.told(1), 20000);

    Bench c = exitAtLastStep(true);
    check.due("a solution", c.run(MAX), 1);
    check.due("at step 20,000", c.told(1), 20000);
    check.due("redo points", c.told(7), 1);
    check.due("it fails, then another step would be done", c.run(1), 3);
    check.due("redo points", c.told(7), 0);
    check.due("steps", c.told(1), 20000);
  }
}
