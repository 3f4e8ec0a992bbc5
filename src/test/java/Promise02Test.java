/** Promise 2: put. */
public final class Promise02Test {
  private static final int NONE = RedoMachine.NONE;
  private static final int MIN = Integer.MIN_VALUE;
  private static final int MAX = Integer.MAX_VALUE;

  public static void main(String[] args) {
    Sentences.testAll(Promise02Test.class);
  }

  @Sentence(of = "Promise 2", says = "One more number comes to the row")
  static void oneMoreNumber(Check check) {
    int[] numbers = {MIN, MAX, -1, 0, 40};
    Bench b = new Bench();
    int p = b.again(5, 5);
    for (int n : numbers) check.due("put " + n, b.put(n), true);
    check.due("begin with these", b.beginWithin(p, 100, 0), true);
    for (int k = 0; k < 5; k++) check.due("number " + k, b.slot(k), numbers[k]);
  }

  @Sentence(of = "Promise 2", says = "at most 10")
  static void atMostTen(Check check) {
    Bench b = new Bench();
    int p = b.again(10, 10);
    for (int i = 0; i < 10; i++) check.due("put when there are " + i, b.put(100 + i), true);
    check.due("begin with all ten", b.beginWithin(p, 100, 0), true);
    for (int k = 0; k < 10; k++) check.due("number " + k, b.slot(k), 100 + k);
  }

  @Sentence(of = "Promise 2", says = "false, refused, when there are 10")
  static void refusedWhenTen(Check check) {
    Bench b = new Bench();
    int p = b.again(10, 10);
    for (int i = 0; i < 10; i++) b.put(100 + i);
    check.due("an 11th", b.put(110), false);
    check.due("an 11th again", b.put(MIN), false);
    check.due("begin with the ten", b.beginWithin(p, 100, 0), true);
    for (int k = 0; k < 10; k++) check.due("number " + k + " is as before", b.slot(k), 100 + k);
    check.due("numbers that the row takes then", b.roomInRow(), 10);
  }

  /** Three numbers in the row, and procedures: 0 has 3 slots, takes 1 and has OUT 2. */
  private static Bench withRow(int... row) {
    Bench b = new Bench();
    b.again(3, 1, 2);
    return b.row(row);
  }

  @Sentence(of = "Promise 2", says = "Calls that take the row empty it")
  static void takenByCalls(Check check) {
    Bench b = withRow(0, 1, 2);
    check.due("procedure", b.procedure(true, 3, 0), 1);
    check.due("room behind procedure", b.roomInRow(), 10);
    for (int kind = 0; kind < 16; kind++) {
      Bench c = kind == 10 ? withRow(0, 1) : withRow(0, 1, 2);
      check.due("add of " + kind, c.add(0, kind, 0, 0, 0, 0), 0);
      check.due("room behind add of " + kind, c.roomInRow(), 10);
    }
    Bench d = withRow(7);
    check.due("begin", d.beginWithin(0, 100, 100), true);
    check.due("room behind begin", d.roomInRow(), 10);
  }

  @Sentence(of = "Promise 2",
      says = "Calls that take the row empty it, also when they are refused",
      where = "procedure")
  static void takenByRefusedProcedure(Check check) {
    int[][] wrong = {{0, 0}, {41, 0}, {MIN, 0}, {5, -1}, {5, 6}, {5, MAX}, {2, 0}, {40, 9}};
    for (int[] w : wrong) {
      Bench b = withRow(0, 1, 2);
      check.due("slots " + w[0] + ", ins " + w[1], b.procedure(true, w[0], w[1]), NONE);
      check.due("room behind slots " + w[0] + ", ins " + w[1], b.roomInRow(), 10);
    }
    Bench nine = withRow(0, 0, 0, 0, 0, 0, 0, 0, 0);
    check.due("9 OUTS", nine.procedure(true, 5, 0), NONE);
    check.due("room behind 9 OUTS", nine.roomInRow(), 10);

    Bench full = new Bench();
    for (int i = 0; i < 60; i++) full.again(1, 0);
    check.due("a 61st", full.row(0).procedure(true, 1, 0), NONE);
    check.due("room behind a 61st", full.roomInRow(), 10);
  }

  @Sentence(of = "Promise 2",
      says = "Calls that take the row empty it, also when they are refused",
      where = "add")
  static void takenByRefusedAdd(Check check) {
    int[][] wrong = {
      {-1, 14, 0, 0, 0, 0}, {1, 14, 0, 0, 0, 0}, {0, -1, 0, 0, 0, 0}, {0, 16, 0, 0, 0, 0},
      {0, 0, 3, 0, 0, 0}, {0, 1, 0, 3, 0, 0}, {0, 2, 0, 32, 0, 0}, {0, 3, -1, 0, 0, 0},
      {0, 4, 0, -1, 0, 0}, {0, 5, 0, 0, 3, 0}, {0, 5, 0, 0, 0, 5}, {0, 6, 0, 0, 6, 0},
      {0, 7, 2000, 0, 0, 0}, {0, 8, 0, 32, 0, 0}, {0, 8, 0, 0, -1, 0}, {0, 9, -1, 0, 0, 0},
      {0, 10, 1, 0, 0, 0}, {0, 10, -1, 0, 0, 0}, {0, 10, 0, 0, 0, 0}, {0, 11, 3, 0, 0, 0},
      {0, 12, -1, 0, 0, 0}, {0, 13, MAX, 0, 0, 0},
    };
    for (int[] w : wrong) {
      String name = "add(" + w[0] + ", " + w[1] + ", " + w[2] + ", " + w[3] + ", ..)";
      Bench b = withRow(0, 1, 2);
      check.due(name, b.add(w[0], w[1], w[2], w[3], w[4], w[5]), NONE);
      check.due("room behind " + name, b.roomInRow(), 10);
    }
    int[][] wrongRows = {{2, 0, 0, 0, 0, 0}, {3, 0, 0, 0, 0, 0}, {2, 3}, {3, -1}, {10, 0, 3}, {10}};
    for (int[] w : wrongRows) {
      Bench b = new Bench();
      b.again(3, 1, 2);
      for (int i = 1; i < w.length; i++) b.put(w[i]);
      check.due("the row of " + w[0], b.add(0, w[0], 0, 0, 0, 0), NONE);
      check.due("room behind the row of " + w[0], b.roomInRow(), 10);
    }
  }

  @Sentence(of = "Promise 2",
      says = "Calls that take the row empty it, also when they are refused",
      where = "begin")
  static void takenByRefusedBegin(Check check) {
    int[][] wrong = {
      {-1, 100, 100}, {1, 100, 100}, {0, -1, 100}, {0, 20001, 100}, {0, 100, -1}, {0, 100, 20001},
      {0, 4, 100}, {0, 0, 0},
    };
    for (int[] w : wrong) {
      String name = "begin(" + w[0] + ", " + w[1] + ", " + w[2] + ")";
      Bench b = withRow(7);
      check.due(name, b.beginWithin(w[0], w[1], w[2]), false);
      check.due("room behind " + name, b.roomInRow(), 10);
    }
    Bench more = withRow(7, 7);
    check.due("begin with one too many", more.beginWithin(0, 100, 100), false);
    check.due("room behind one too many", more.roomInRow(), 10);
  }

  @Sentence(of = "Promise 2", says = "Calls that take the row empty it", where = "no others do")
  static void leftByOthers(Check check) {
    for (int state = NONE; state <= 6; state++) {
      Bench b = Bench.inState(state).row(1, 2, 3);
      b.tell(0);
      b.tell(5);
      b.letter(0);
      b.slot(0);
      b.told(0);
      b.told(99);
      b.run(0);
      b.run(1);
      check.due("room behind all others, from STATE " + state, b.roomInRow(), 7);
    }
  }
}
