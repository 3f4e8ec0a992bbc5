/** Promise 1: A new object. */
public final class Promise01Test {
  private static final int NONE = RedoMachine.NONE;

  public static void main(String[] args) {
    Sentences.testAll(Promise01Test.class);
  }

  /** An object beside which another one has been used all over. */
  private static Bench besideAnother() {
    Bench used = Bench.inState(1);
    used.tell(0);
    used.row(1, 2, 3);
    return new Bench();
  }

  @Sentence(of = "Promise 1", says = "No PROCEDURES")
  static void noProcedures(Check check) {
    for (int n : new int[] {0, 1, 59}) {
      Bench b = besideAnother();
      check.due("begin of " + n, b.beginWithin(n, 20000, 20000), false);
      check.due("add to " + n, b.exit(n), NONE);
      check.due("the first procedure is 0", b.again(1, 0), 0);
      check.due("CALL 1 from it", b.call(0, 1), NONE);
    }
  }

  @Sentence(of = "Promise 1", says = "nothing begun")
  static void nothingBegun(Check check) {
    Bench b = besideAnother();
    check.due("told", b.told(), "-1 0 0 0 0 0 0 0 0");
    check.due("run", b.run(1), NONE);
    check.due("run to the end", b.run(Integer.MAX_VALUE), NONE);
    check.due("slot", b.slot(0), NONE);
    check.due("tell", b.tell(0), Bench.THROWS);
    check.due("a procedure", b.again(1, 0, 0), 0);
    check.due("its instruction", b.exit(0), 0);
    check.due("run with a procedure there", b.run(1), NONE);
    check.due("slot with a procedure there", b.slot(0), NONE);
    check.due("tell with a procedure there", b.tell(0), Bench.THROWS);
    check.due("told with a procedure there", b.told(), "-1 0 0 0 0 0 0 0 0");
  }

  @Sentence(of = "Promise 1", says = "the row and OUT are empty", where = "the row")
  static void rowIsEmpty(Check check) {
    check.due("numbers that the row takes", besideAnother().roomInRow(), 10);

    Bench b = besideAnother();
    int p = b.again(1, 0);
    b.exit(p);
    check.due("begin without arguments", b.begin(p), true);
    check.due("run", b.run(1), 1);
    check.due("OUT 0 of a procedure whose row was the new one", b.tell(0), Bench.THROWS);
  }

  @Sentence(of = "Promise 1", says = "the row and OUT are empty", where = "OUT")
  static void outIsEmpty(Check check) {
    Bench b = besideAnother();
    for (int i : new int[] {0, 1, -1, 999, 1000}) check.due("letter " + i, b.letter(i), NONE);
  }
}
