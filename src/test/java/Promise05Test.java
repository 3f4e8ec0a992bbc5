/** Promise 5: begin. */
public final class Promise05Test {
  private static final int NONE = RedoMachine.NONE;
  private static final int MIN = Integer.MIN_VALUE;
  private static final int MAX = Integer.MAX_VALUE;

  public static void main(String[] args) {
    Sentences.testAll(Promise05Test.class);
  }

  /** Procedure 0 has 3 slots and takes 2. */
  private static Bench oneProcedure() {
    Bench b = new Bench();
    b.again(3, 2);
    return b;
  }

  @Sentence(of = "Promise 5", says = "the row its arguments (NUMBERS)")
  static void rowIsItsArguments(Check check) {
    Bench b = oneProcedure();
    check.due("begin", b.row(MIN, -1).beginWithin(0, 100, 100), true);
    check.due("the first", b.slot(0), MIN);
    check.due("the second", b.slot(1), -1);
    check.due("a slot that is no argument", b.slot(2), 0);

    Bench c = new Bench();
    c.again(10, 10);
    int[] ten = {MAX, 1, 2, 3, 4, 5, 6, 7, 8, MIN};
    check.due("begin with ten", c.begin(0, ten), true);
    for (int k = 0; k < 10; k++) check.due("argument " + k, c.slot(k), ten[k]);

    Bench d = new Bench();
    d.again(1, 0);
    check.due("begin with none", d.begin(0), true);
    check.due("its slot", d.slot(0), 0);
  }

  @Sentence(of = "Promise 5",
      says = "its FRAME alone lies there, nothing is on the HEAP, the STATE is 0")
  static void frameAlone(Check check) {
    for (int state = NONE; state <= 6; state++) {
      Bench b = Bench.inState(state);
      check.due("begin in STATE " + state, b.begin(0, 3), true);
      check.due("told behind STATE " + state, b.told(), "0 0 4 4 0 0 0 0 1");
      check.due("slot 0 behind STATE " + state, b.slot(0), 3);
      check.due("slot 1 behind STATE " + state, b.slot(1), 0);
      check.due("tell behind STATE " + state, b.tell(0), Bench.THROWS);
    }
  }

  /** Whatever was begun, and wherever it stopped, the next one runs as if it were the first. */
  @Sentence(of = "Promise 5",
      says = "A PROCEDURE is begun",
      where = "anew, wherever the last one stopped")
  static void begunAnew(Check check) {
    Bench b = new Bench();
    int p = b.again(3, 0, 1);
    b.make(p, 0, 1, 1, 2);
    b.redo(p, 5);
    b.number(p, 1, 8);
    b.exit(p);
    b.fail(p);
    b.number(p, 2, 4);
    b.exit(p);
    for (int steps = 1; steps < 6; steps++) {
      b.begin(p);
      b.run(steps);
      b.begin(p);
      for (int k = 0; k < 3; k++) check.due("slot " + k + " behind " + steps, b.slot(k), 0);
      check.due("solutions behind " + steps + " steps", b.solutions(), "8 0 #2");
      check.due("told at the end", b.told(), "2 6 5 8 3 3 2 0 1");
    }
  }

  @Sentence(of = "Promise 5", says = "False, refused, when there is no such PROCEDURE")
  static void noSuchProcedure(Check check) {
    for (int n : new int[] {-1, 1, 2, 59, 60, MIN, MAX}) {
      check.due("procedure " + n, oneProcedure().begin(n, 1, 2), false);
      check.due("procedure " + n + " with an empty row", oneProcedure().begin(n), false);
    }
    check.due("procedure 0", oneProcedure().begin(0, 1, 2), true);
  }

  @Sentence(of = "Promise 5", says = "the row has not as many as its INS")
  static void rowNotAsManyAsIns(Check check) {
    for (int ins : new int[] {0, 1, 2, 9, 10}) {
      for (int size = 0; size <= 10; size++) {
        Bench b = new Bench();
        b.again(40, ins);
        check.due(size + " for " + ins + " INS", b.begin(0, new int[size]), size == ins);
      }
    }
  }

  @Sentence(of = "Promise 5", says = "a limit is not 0 .. 20,000", where = "the STACK's")
  static void stackLimit(Check check) {
    for (int n : new int[] {-1, 20001, 20002, MIN, MAX}) {
      check.due("stack " + n, oneProcedure().row(1, 2).beginWithin(0, n, 0), false);
    }
    check.due("stack 20,000", oneProcedure().row(1, 2).beginWithin(0, 20000, 0), true);
    check.due("stack 19,999", oneProcedure().row(1, 2).beginWithin(0, 19999, 0), true);
  }

  @Sentence(of = "Promise 5", says = "a limit is not 0 .. 20,000", where = "the HEAP's")
  static void heapLimit(Check check) {
    for (int n : new int[] {-1, 20001, 20002, MIN, MAX}) {
      check.due("heap " + n, oneProcedure().row(1, 2).beginWithin(0, 100, n), false);
    }
    for (int n : new int[] {0, 1, 19999, 20000}) {
      check.due("heap " + n, oneProcedure().row(1, 2).beginWithin(0, 100, n), true);
    }
  }

  @Sentence(of = "Promise 5", says = "or the FRAME goes beyond the limit")
  static void frameBeyondLimit(Check check) {
    for (int slots : new int[] {1, 2, 3, 39, 40}) {
      for (int stack : new int[] {0, 1, slots, slots + 1, slots + 2, slots + 3}) {
        Bench b = new Bench();
        b.again(slots, 0);
        boolean due = stack >= slots + 2;
        check.due(slots + " slots within " + stack, b.beginWithin(0, stack, 20000), due);
        check.due("the size then", b.told(2), due ? slots + 2 : 0);
      }
    }
  }

  @Sentence(of = "Promise 5", says = "with limits for the STACK and the HEAP")
  static void limitsAreThoseOfTheLastBegin(Check check) {
    Bench b = new Bench();
    int p = b.again(1, 0);
    b.redo(p, 0);
    b.make(p, 0, 0, 0);
    b.beginWithin(p, 6, 1);
    check.due("the stack holds it, the heap doesn't", b.run(2), 5);
    b.beginWithin(p, 5, 2);
    check.due("the stack doesn't", b.run(2), 4);
    b.beginWithin(p, 6, 2);
    check.due("both do", b.run(2), 0);

    b.beginWithin(p, 6, 2);
    check.due("refused with less", b.beginWithin(p, 5, 20001), false);
    check.due("refused with less", b.beginWithin(p, 20001, 1), false);
    check.due("both do still", b.run(2), 0);
    b.beginWithin(p, 5, 2);
    check.due("refused with more", b.beginWithin(p, 100, 20001), false);
    check.due("the stack doesn't still", b.run(2), 4);
    b.beginWithin(p, 6, 1);
    check.due("refused with more", b.beginWithin(p, 20001, 100), false);
    check.due("the heap doesn't still", b.run(2), 5);
  }

  @Sentence(of = "Promise 5", says = "Takes the row")
  static void takesTheRow(Check check) {
    Bench b = oneProcedure();
    check.due("begin", b.begin(0, 1, 2), true);
    check.due("begin without a row", b.beginWithin(0, 100, 100), false);
    check.due("refused with three", b.begin(0, 1, 2, 3), false);
    check.due("begin with two behind it", b.begin(0, 4, 5), true);
    check.due("the first", b.slot(0), 4);
    check.due("room behind it", b.roomInRow(), 10);
  }

  @Sentence(of = "Promise 5", says = "False, refused", where = "nothing changes")
  static void refusedChangesNothing(Check check) {
    int[][] wrong = {
      {-1, 100, 100}, {1, 100, 100}, {0, -1, 100}, {0, 20001, 100}, {0, 100, -1}, {0, 100, 20001},
      {0, 3, 100},
    };
    for (int state = NONE; state <= 6; state++) {
      Bench b = Bench.inState(state);
      String told = b.told();
      long slot = b.slot(0);
      for (int[] w : wrong) check.due("refused", b.row(9).beginWithin(w[0], w[1], w[2]), false);
      check.due("refused, the row is empty", b.beginWithin(0, 100, 100), false);
      check.due("told in STATE " + state, b.told(), told);
      check.due("slot in STATE " + state, b.slot(0), slot);
      check.due("tell in STATE " + state, b.tell(0), state == 1 ? 1 : Bench.THROWS);
      check.due("run on in STATE " + state, b.run(MAX), state == 0 ? 2 : state);
    }
  }
}
