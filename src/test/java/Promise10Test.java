/** Promise 10: slot. */
public final class Promise10Test {
  private static final int NONE = RedoMachine.NONE;
  private static final int MIN = Integer.MIN_VALUE;
  private static final int MAX = Integer.MAX_VALUE;
  private static final long CELL = 1L << 40;

  public static void main(String[] args) {
    Sentences.testAll(Promise10Test.class);
  }

  @Sentence(of = "Promise 10", says = "The VALUE of a SLOT of the FRAME at work")
  static void frameAtWork(Check check) {
    Bench b = new Bench();
    int q = b.again(3, 1, 2);
    b.redo(q, 3);
    b.number(q, 2, 50);
    b.exit(q);
    b.number(q, 2, 60);
    b.exit(q);
    int p = b.again(2, 1, 0);
    b.call(p, q, 0, 1);
    b.number(p, 0, 9);
    b.exit(p);
    b.begin(p, 4);
    check.due("the first frame's", b.slot(0), 4);
    check.due("it has no slot 2", b.slot(2), NONE);
    b.run(1);
    check.due("the called frame's argument", b.slot(0), 4);
    check.due("the called frame's slot 2", b.slot(2), 0);
    b.run(2);
    check.due("the called frame's slot 2", b.slot(2), 50);
    b.run(1);
    check.due("the caller's OUT", b.slot(1), 50);
    check.due("the caller has no slot 2", b.slot(2), NONE);
    b.run(2);
    check.due("in STATE 1", b.slot(0), 9);
    b.run(1);
    check.due("the redo point's frame is at work", b.slot(2), 60);
    check.due("its argument", b.slot(0), 4);
    b.run(1);
    check.due("the caller again", b.slot(0), 4);
    check.due("its OUT again", b.slot(1), 60);
  }

  @Sentence(of = "Promise 10", says = "in STATES 0, 1")
  static void inStatesZeroAndOne(Check check) {
    for (int state : new int[] {0, 1}) {
      check.due("slot 0 in STATE " + state, Bench.inState(state).slot(0), 7);
      check.due("slot 1 in STATE " + state, Bench.inState(state).slot(1), 0);
    }
    for (int state : new int[] {NONE, 2, 3, 4, 5, 6}) {
      check.due("slot 0 in STATE " + state, Bench.inState(state).slot(0), NONE);
      check.due("slot 1 in STATE " + state, Bench.inState(state).slot(1), NONE);
      check.due("slot 2 in STATE " + state, Bench.inState(state).slot(2), NONE);
    }
  }

  @Sentence(of = "Promise 10", says = "its NUMBER")
  static void itsNumber(Check check) {
    for (int n : new int[] {0, 1, -2, 31, MIN, MAX}) {
      Bench b = new Bench();
      int p = b.again(2, 1);
      b.number(p, 1, n);
      b.begin(p, n);
      check.due("the argument " + n, b.slot(0), n);
      b.run(1);
      check.due("NUMBER " + n, b.slot(1), n);
    }
  }

  @Sentence(of = "Promise 10", says = "2^40 and the TAG of a CELL")
  static void tagOfCell(Check check) {
    for (int tag : new int[] {0, 1, 30, 31}) {
      for (int fields = 0; fields <= 4; fields++) {
        Bench b = new Bench();
        int p = b.again(2, 1);
        b.make(p, 1, 3, 0);
        b.make(p, 1, tag, new int[fields]);
        b.begin(p, 5);
        b.run(2);
        check.due("tag " + tag + ", " + fields + " fields", b.slot(1), CELL + tag);
      }
    }
  }

  @Sentence(of = "Promise 10", says = "NONE when there is none such")
  static void noneSuch(Check check) {
    for (int slots : new int[] {1, 2, 39, 40}) {
      Bench b = new Bench();
      int p = b.again(slots, 0);
      b.call(p, p);
      b.begin(p);
      for (int frames = 1; frames <= 2; frames++) {
        check.due("the last of " + slots, b.slot(slots - 1), 0);
        for (int k : new int[] {-1, -2, slots, slots + 1, 100, MIN, MAX}) {
          check.due("slot " + k + " of " + slots, b.slot(k), NONE);
        }
        b.run(1);
      }
    }
  }

  @Sentence(of = "Promise 10", says = "A NUMBER may be -1, too")
  static void numberMinusOne(Check check) {
    Bench b = new Bench();
    int p = b.again(2, 1);
    b.number(p, 1, -1);
    b.begin(p, -1);
    check.due("the argument", b.slot(0), -1);
    check.due("the other", b.slot(1), 0);
    b.run(1);
    check.due("the other becomes it", b.slot(1), -1);
  }
}
