/** Promise 4: add. */
public final class Promise04Test {
  private static final int NONE = RedoMachine.NONE;
  private static final int MIN = Integer.MIN_VALUE;
  private static final int MAX = Integer.MAX_VALUE;

  /**
   * What a, b, c, d are by instruction: s a SLOT, n any number, t a TAG, o an OPERATION, r a
   * RELATION, j to, p a PROCEDURE; what is behind is not looked at.
   */
  private static final String[] SHAPES = {
    "sn", "ss", "st", "st", "ss", "ssso", "ssr", "j", "stj", "j", "p", "s", "s", "s", "", "",
  };

  public static void main(String[] args) {
    Sentences.testAll(Promise04Test.class);
  }

  /** Procedure 0 has 3 slots and neither INS nor OUTS, procedure 1 has 5 slots. */
  private static Bench twoProcedures() {
    Bench b = new Bench();
    b.again(3, 0);
    b.again(5, 0);
    return b;
  }

  /** add to procedure 0 of an instruction whose numbers are 0 but for one. */
  private static int addWith(Bench b, int kind, int place, int n) {
    int[] arg = new int[4];
    arg[place] = n;
    return b.add(0, kind, arg[0], arg[1], arg[2], arg[3]);
  }

  /** Tries numbers in all places of that kind of number: refused ones, and ones that fit. */
  private static void tryAll(Check check, char shape, int[] refused, int[] fitting) {
    for (int kind = 0; kind < 16; kind++) {
      for (int place = 0; place < SHAPES[kind].length(); place++) {
        if (SHAPES[kind].charAt(place) != shape) continue;
        Bench b = twoProcedures();
        String name = "instruction " + kind + ", number " + place + " is ";
        for (int n : refused) check.due(name + n, addWith(b, kind, place, n), NONE);
        for (int i = 0; i < fitting.length; i++) {
          check.due(name + fitting[i], addWith(b, kind, place, fitting[i]), i);
        }
      }
    }
  }

  @Sentence(of = "Promise 4", says = "A new INSTRUCTION of a PROCEDURE .. its number")
  static void numbersFromZero(Check check) {
    Bench b = twoProcedures();
    check.due("first of 0", b.exit(0), 0);
    check.due("second of 0", b.exit(0), 1);
    check.due("first of 1", b.exit(1), 0);
    check.due("third of 0", b.exit(0), 2);
    check.due("second of 1", b.exit(1), 1);
    check.due("a refused one", b.number(0, 3, 0), NONE);
    check.due("a refused one takes no number", b.exit(0), 3);
    for (int i = 4; i < 400; i++) check.due("number " + i, b.exit(0), i);
  }

  /** What is next is a number: an instruction that comes later is found there. */
  @Sentence(of = "Promise 4",
      says = "A new INSTRUCTION of a PROCEDURE",
      where = "of the one at work, too")
  static void addedWhileAtWork(Check check) {
    Bench b = new Bench();
    int p = b.again(1, 0, 0);
    b.number(p, 0, 1);
    b.begin(p);
    check.due("run of 1", b.run(1), 0);
    b.number(p, 0, 9);
    b.exit(p);
    check.due("run on", b.run(10), 1);
    check.due("the added one was done", b.text(0), "9");
  }

  @Sentence(of = "Promise 4", says = "what is told of it in that order as a, b, c, d")
  static void inThatOrder(Check check) {
    Bench b = new Bench();
    int p = b.again(8, 0, 7);
    b.add(p, 0, 3, 20, 1, 2); // slot 3 becomes 20
    b.add(p, 0, 4, 6, 1, 2); // slot 4 becomes 6
    b.add(p, 5, 5, 3, 4, 1); // slot 5 becomes 20 - 6
    b.add(p, 6, 4, 3, 0, 5); // 6 < 20
    b.row(5, 4).add(p, 2, 6, 9, 3, 1); // slot 6 becomes c9(14,6)
    b.add(p, 8, 6, 9, 11, 3); // it has TAG 9
    b.add(p, 1, 7, 6, 3, 4); // slot 7 becomes what 6 has
    b.add(p, 4, 7, 6, 3, 4); // they are the same
    b.row(2, 1).add(p, 3, 7, 9, 5, 6); // slots 2 and 1 become 14 and 6
    b.add(p, 6, 2, 5, 4, 0); // 14 equals 14
    b.add(p, 14, 5, 5, 5, 5);
    b.begin(p);
    check.due("run", b.run(99), 1);
    check.due("steps", b.told(1), 11);
    check.due("OUT", b.text(0), "c9(14,6)");
  }

  @Sentence(of = "Promise 4", says = "others are not looked at")
  static void othersAreNotLookedAt(Check check) {
    for (int kind = 0; kind < 16; kind++) {
      Bench b = twoProcedures();
      int number = 0;
      for (int place = SHAPES[kind].length(); place < 4; place++) {
        for (int n : new int[] {-1, 3, 32, 2000, MIN, MAX}) {
          check.due("instruction " + kind + ", number " + place + " is " + n,
              addWith(b, kind, place, n), number++);
        }
      }
    }
  }

  @Sentence(of = "Promise 4", says = "others are not looked at", where = "n of NUMBER is any")
  static void anyNumber(Check check) {
    tryAll(check, 'n', new int[] {}, new int[] {0, -1, 3, 32, 2000, MIN, MAX});
  }

  @Sentence(of = "Promise 4", says = "CALL p: a")
  static void callIsA(Check check) {
    Bench b = new Bench();
    b.again(3, 0);
    b.again(3, 1);
    b.put(0);
    check.due("a is 1, which takes one", b.add(0, 10, 1, 0, 0, 0), 0);
    check.due("a is 0, which takes none", b.add(0, 10, 0, 1, 1, 1), 1);
  }

  @Sentence(of = "Promise 4",
      says = "there is no such PROCEDURE or INSTRUCTION",
      where = "PROCEDURE")
  static void noSuchProcedure(Check check) {
    for (int kind = 0; kind < 16; kind++) {
      for (int n : new int[] {-1, 2, 59, 60, MIN, MAX}) {
        check.due("instruction " + kind + " of procedure " + n,
            twoProcedures().add(n, kind, 0, 0, 0, 0), NONE);
      }
      check.due("instruction " + kind + " of procedure 1",
          twoProcedures().add(1, kind, 0, 0, 0, 0), 0);
    }
  }

  @Sentence(of = "Promise 4",
      says = "there is no such PROCEDURE or INSTRUCTION",
      where = "INSTRUCTION")
  static void noSuchInstruction(Check check) {
    Bench b = twoProcedures();
    for (int kind : new int[] {-1, 16, 17, MIN, MAX}) {
      check.due("instruction " + kind, b.add(0, kind, 0, 0, 0, 0), NONE);
    }
    for (int kind = 0; kind < 16; kind++) {
      check.due("instruction " + kind, b.add(0, kind, 0, 0, 0, 0), kind);
    }
  }

  @Sentence(of = "Promise 4", says = "a SLOT is none of the PROCEDURE")
  static void noSuchSlot(Check check) {
    // 3 and 4 are slots of the other procedure alone
    tryAll(check, 's', new int[] {-1, 3, 4, 5, 39, 40, MIN, MAX}, new int[] {0, 1, 2});
  }

  @Sentence(of = "Promise 4", says = "a TAG not 0 .. 31")
  static void noSuchTag(Check check) {
    tryAll(check, 't', new int[] {-1, 32, 33, MIN, MAX}, new int[] {0, 1, 30, 31});
  }

  @Sentence(of = "Promise 4", says = "an OPERATION or RELATION none", where = "OPERATION")
  static void noSuchOperation(Check check) {
    tryAll(check, 'o', new int[] {-1, 5, 6, MIN, MAX}, new int[] {0, 1, 2, 3, 4});
  }

  @Sentence(of = "Promise 4", says = "an OPERATION or RELATION none", where = "RELATION")
  static void noSuchRelation(Check check) {
    tryAll(check, 'r', new int[] {-1, 6, 7, MIN, MAX}, new int[] {0, 1, 2, 3, 4, 5});
  }

  @Sentence(of = "Promise 4", says = "to not 0 .. 1999")
  static void noSuchTo(Check check) {
    tryAll(check, 'j', new int[] {-1, 2000, 2001, MIN, MAX}, new int[] {0, 1, 40, 1998, 1999});
  }

  @Sentence(of = "Promise 4", says = "p is not there")
  static void noSuchCallee(Check check) {
    tryAll(check, 'p', new int[] {-1, 2, 3, 59, 60, MIN, MAX}, new int[] {0, 1});
    Bench b = new Bench();
    b.again(1, 0);
    check.due("CALL of what is not there yet", b.call(0, 1), NONE);
    b.again(1, 0);
    check.due("CALL of it when it is there", b.call(0, 1), 0);
    check.due("CALL of an earlier one", b.call(1, 0), 0);
    check.due("CALL of itself", b.call(1, 1), 1);
  }

  @Sentence(of = "Promise 4", says = "or the row .. has more than 4 (2, 3)")
  static void rowOfMoreThanFour(Check check) {
    for (int kind = 2; kind <= 3; kind++) {
      Bench b = twoProcedures();
      for (int size = 5; size <= 10; size++) {
        b.row(new int[size]);
        check.due("a row of " + size + " for " + kind, b.add(0, kind, 0, 0, 0, 0), NONE);
      }
      for (int size = 0; size <= 4; size++) {
        b.row(new int[size]);
        check.due("a row of " + size + " for " + kind, b.add(0, kind, 0, 0, 0, 0), size);
      }
    }
  }

  @Sentence(of = "Promise 4", says = "not as many as told (10)")
  static void rowNotAsManyAsTold(Check check) {
    int[][] insAndOuts = {{0, 0}, {0, 1}, {1, 0}, {2, 2}, {0, 8}, {2, 8}, {10, 0}, {5, 5}};
    for (int[] want : insAndOuts) {
      Bench b = new Bench();
      b.again(3, 0);
      int callee = b.again(10, want[0], new int[want[1]]);
      int number = 0;
      for (int size = 0; size <= 10; size++) {
        int due = size == want[0] + want[1] ? number++ : NONE;
        check.due(size + " for " + want[0] + " INS and " + want[1] + " OUTS",
            b.call(0, callee, new int[size]), due);
      }
      check.due("one fitted", number, 1);
    }
  }

  @Sentence(of = "Promise 4", says = "or the row .. has .. what is no SLOT")
  static void rowWithNoSlot(Check check) {
    for (int wrong : new int[] {-1, 3, 4, 5, 40, MIN, MAX}) {
      for (int place = 0; place < 4; place++) {
        for (int kind : new int[] {2, 3, 10}) {
          Bench b = new Bench();
          b.again(3, 0);
          b.again(40, 2, 0, 0); // slots that the callee alone has are none
          for (int i = 0; i < 4; i++) b.put(i == place ? wrong : 2);
          check.due("row of " + kind + ", number " + place + " is " + wrong,
              b.add(0, kind, kind == 10 ? 1 : 0, 0, 0, 0), NONE);
        }
      }
    }
    Bench b = new Bench();
    b.again(3, 0);
    b.again(40, 2, 0, 0);
    check.due("the last slot for MAKE", b.make(0, 0, 0, 2, 2, 2, 2), 0);
    check.due("the last slot for TAKE", b.take(0, 0, 0, 2, 2, 2, 2), 1);
    check.due("the last slot for CALL", b.call(0, 1, 2, 2, 2, 2), 2);
  }

  @Sentence(of = "Promise 4", says = "of 2, 3, 10 alone; elsewhere it is not looked at")
  static void rowIsNotLookedAtElsewhere(Check check) {
    for (int kind = 0; kind < 16; kind++) {
      if (kind == 2 || kind == 3 || kind == 10) continue;
      Bench b = twoProcedures();
      check.due("a wrong row for " + kind, b.row(-1, 99, MIN, MAX).add(0, kind, 0, 0, 0, 0), 0);
      check.due("a full row for " + kind, b.row(new int[10]).add(0, kind, 0, 0, 0, 0), 1);
      check.due("an empty row for " + kind, b.add(0, kind, 0, 0, 0, 0), 2);
    }
  }

  @Sentence(of = "Promise 4", says = "Takes the row")
  static void takesTheRow(Check check) {
    Bench b = new Bench();
    int p = b.again(3, 0, 0);
    b.make(p, 1, 5, 0, 0);
    b.row(0, 1, 2).add(p, 1, 2, 1, 0, 0);
    b.add(p, 2, 0, 6, 0, 0); // a row of its own would stand ahead of it
    b.exit(p);
    b.begin(p);
    check.due("run", b.run(9), 1);
    check.due("a cell without fields", b.text(0), "c6");
    check.due("refused", b.row(0, 1, 2).add(p, 2, 0, 32, 0, 0), NONE);
    check.due("room behind it", b.roomInRow(), 10);
  }

  @Sentence(of = "Promise 4", says = "NONE, refused", where = "nothing changes")
  static void refusedChangesNothing(Check check) {
    Bench b = new Bench();
    int p = b.again(1, 0, 0);
    b.number(p, 0, 5);
    check.due("refused", b.number(p, 1, 6), NONE);
    check.due("refused", b.add(p, 16, 0, 0, 0, 0), NONE);
    check.due("refused", b.fail(p + 1), NONE);
    b.exit(p);
    b.begin(p);
    check.due("the solution", b.solutions(), "5 #2");
    check.due("steps", b.told(1), 2);
  }

  /**
   * The document promises nothing behind 512 calls, and 2000 instructions take more of them: that
   * the limit stands even so is this class's own word.
   */
  @Sentence(of = "Promise 4", says = "NONE, refused, when there are 2000")
  static void refusedAtTwoThousand(Check check) {
    RedoMachine machine = new RedoMachine();
    machine.procedure(true, 1, 0);
    machine.procedure(true, 1, 0);
    for (int i = 0; i < 999; i++) machine.add(0, 14, 0, 0, 0, 0);
    machine.add(1, 99, 0, 0, 0, 0); // refused, so it does not count
    for (int i = 0; i < 1000; i++) machine.add(1, 14, 0, 0, 0, 0);
    check.due("the 2000th of all", machine.add(0, 14, 0, 0, 0, 0), 999);
    check.due("a 2001st", machine.add(0, 14, 0, 0, 0, 0), NONE);
    check.due("a 2001st of another", machine.add(1, 15, 0, 0, 0, 0), NONE);
  }
}
