/** Promise 7: told. */
public final class Promise07Test {
  private static final int NONE = RedoMachine.NONE;
  private static final int MIN = Integer.MIN_VALUE;
  private static final int MAX = Integer.MAX_VALUE;

  public static void main(String[] args) {
    Sentences.testAll(Promise07Test.class);
  }

  /** A program that makes each figure differ from the others on its way. */
  private static Bench begun() {
    Bench b = new Bench();
    int q = b.again(2, 0);
    b.exit(q);
    int p = b.again(1, 0, 0);
    b.make(p, 0, 3, 0);
    b.call(p, q);
    b.redo(p, 7);
    b.make(p, 0, 3, 0, 0);
    b.call(p, q);
    b.exit(p);
    b.fail(p);
    b.exit(p);
    b.begin(p);
    return b;
  }

  /** The answers to a what, run by run, with a blank between. */
  private static String toldBehindEachRun(int what) {
    Bench b = begun();
    StringBuilder all = new StringBuilder().append(b.told(what));
    for (int i = 0; i < 10; i++) {
      b.run(1);
      all.append(' ').append(b.told(what));
    }
    return all.toString();
  }

  @Sentence(of = "Promise 7", says = "The STATE (what 0)")
  static void theState(Check check) {
    check.due("told(0)", toldBehindEachRun(0), "0 0 0 0 0 0 0 0 1 1 2");
    for (int state = NONE; state <= 6; state++) {
      check.due("told(0) in STATE " + state, Bench.inState(state).told(0), state);
    }
  }

  @Sentence(of = "Promise 7", says = "STEPS since begin() (1)")
  static void theSteps(Check check) {
    check.due("told(1)", toldBehindEachRun(1), "0 1 2 3 4 5 6 7 8 9 9");
  }

  @Sentence(of = "Promise 7", says = "the SIZE (2)")
  static void theSize(Check check) {
    check.due("told(2)", toldBehindEachRun(2), "3 3 7 3 6 6 10 6 6 3 3");
  }

  @Sentence(of = "Promise 7", says = "the greatest SIZE (3)")
  static void theGreatestSize(Check check) {
    check.due("told(3)", toldBehindEachRun(3), "3 3 7 7 7 7 10 10 10 10 10");
  }

  @Sentence(of = "Promise 7", says = "the HEAP (4)")
  static void theHeap(Check check) {
    check.due("told(4)", toldBehindEachRun(4), "0 2 2 2 2 5 5 5 5 2 2");
  }

  @Sentence(of = "Promise 7", says = "the greatest HEAP (5)")
  static void theGreatestHeap(Check check) {
    check.due("told(5)", toldBehindEachRun(5), "0 2 2 2 2 5 5 5 5 5 5");
  }

  @Sentence(of = "Promise 7", says = "SOLUTIONS (6; all since begin())")
  static void theSolutions(Check check) {
    check.due("told(6)", toldBehindEachRun(6), "0 0 0 0 0 0 0 0 1 2 2");
  }

  @Sentence(of = "Promise 7", says = "REDO points that lie there (7)")
  static void theRedoPoints(Check check) {
    check.due("told(7)", toldBehindEachRun(7), "0 0 0 0 1 1 1 1 1 0 0");
    Bench b = new Bench();
    int p = b.again(2, 0);
    b.redo(p, 9);
    b.drop(p, 0);
    b.begin(p);
    b.run(2);
    check.due("told(7) with a dead one, which lies there still", b.told(7), 1);
  }

  @Sentence(of = "Promise 7", says = "FRAMES that do (8)")
  static void theFrames(Check check) {
    check.due("told(8)", toldBehindEachRun(8), "1 1 2 1 1 1 2 1 1 1 1");
  }

  @Sentence(of = "Promise 7", says = "all since begin()")
  static void allSinceBegin(Check check) {
    Bench b = begun();
    b.run(100);
    b.run(100);
    check.due("told at the end of the first", b.told(), "1 9 3 10 2 5 2 0 1");
    check.due("begin", b.begin(1), true);
    check.due("told behind begin", b.told(), "0 0 3 3 0 0 0 0 1");
    b.run(2);
    check.due("told on the way", b.told(), "0 2 7 7 2 2 0 0 2");
    check.due("refused begin", b.begin(5), false);
    check.due("told behind a refused begin", b.told(), "0 2 7 7 2 2 0 0 2");
  }

  @Sentence(of = "Promise 7", says = "NONE for another what")
  static void noneForAnother(Check check) {
    for (int state = NONE; state <= 6; state++) {
      Bench b = Bench.inState(state);
      for (int what : new int[] {-1, 9, 10, -8, 1 << 16, MIN, MAX}) {
        check.due("told(" + what + ") in STATE " + state, b.told(what), NONE);
      }
    }
  }

  @Sentence(of = "Promise 7", says = "0 for 1 to 8 before begin()")
  static void zeroBeforeBegin(Check check) {
    Bench b = new Bench();
    for (int what = 1; what <= 8; what++) check.due("told(" + what + ")", b.told(what), 0);
    check.due("told(0) is NONE", b.told(0), NONE);
    b.again(1, 0);
    b.redo(0, 0);
    b.run(5);
    check.due("refused begin", b.begin(1), false);
    check.due("refused begin", b.beginWithin(0, 2, 0), false);
    for (int what = 1; what <= 8; what++) {
      check.due("told(" + what + ") behind a refused begin", b.told(what), 0);
    }
  }
}
