/** Promise 3: procedure. */
public final class Promise03Test {
  private static final int NONE = RedoMachine.NONE;
  private static final int MIN = Integer.MIN_VALUE;
  private static final int MAX = Integer.MAX_VALUE;

  public static void main(String[] args) {
    Sentences.testAll(Promise03Test.class);
  }

  @Sentence(of = "Promise 3", says = "A new PROCEDURE .. its number")
  static void numbersFromZero(Check check) {
    Bench b = new Bench();
    check.due("the first", b.again(1, 0), 0);
    check.due("the second", b.once(40, 2, 0, 1, 2, 3, 4, 5, 6, 39), 1);
    check.due("a refused one", b.again(0, 0), NONE);
    check.due("a refused one takes no number", b.again(2, 2), 2);
  }

  @Sentence(of = "Promise 3", says = "the row its OUTS")
  static void rowIsItsOuts(Check check) {
    Bench b = new Bench();
    int p = b.again(10, 2, 9, 0, 9, 1, 5, 5, 0, 1);
    b.number(p, 9, 90);
    b.exit(p);
    b.begin(p, 70, 71);
    check.due("run", b.run(9), 1);
    String[] due = {"90", "70", "90", "71", "0", "0", "70", "71"};
    for (int k = 0; k < 8; k++) check.due("OUT " + k, b.text(k), due[k]);
    check.due("OUT 8", b.tell(8), Bench.THROWS);

    Bench c = new Bench();
    int q = c.again(1, 0);
    c.exit(q);
    c.begin(q);
    check.due("run without OUTS", c.run(9), 1);
    check.due("OUT 0 of none", c.tell(0), Bench.THROWS);
  }

  @Sentence(of = "Promise 3", says = "NONE, refused, when there are 60")
  static void refusedAtSixty(Check check) {
    Bench b = new Bench();
    check.due("one that is refused does not count", b.again(41, 0), NONE);
    for (int i = 0; i < 60; i++) check.due("procedure " + i, b.again(1, 0), i);
    check.due("a 61st", b.again(1, 0), NONE);
    check.due("a 61st again", b.once(2, 1, 0), NONE);
    check.due("add to the last", b.exit(59), 0);
    check.due("add to what is not there", b.exit(60), NONE);
    check.due("begin of what is not there", b.begin(60), false);
    check.due("CALL of the last", b.call(0, 59), 0);
    check.due("CALL of what is not there", b.call(0, 60), NONE);
    check.due("begin of the last", b.begin(59), true);
    check.due("run of the last", b.run(9), 1);
  }

  @Sentence(of = "Promise 3", says = "or a number is not as said", where = "1 .. 40 SLOTS")
  static void slotsAsSaid(Check check) {
    for (int slots : new int[] {0, -1, 41, 42, 60, MIN, MAX}) {
      Bench b = new Bench();
      check.due("slots " + slots, b.again(slots, 0), NONE);
      check.due("there is none then", b.exit(0), NONE);
    }
    for (int slots : new int[] {1, 2, 39, 40}) {
      Bench b = new Bench();
      check.due("slots " + slots, b.again(slots, 0), 0);
      check.due("its last slot", b.number(0, slots - 1, 3), 0);
      check.due("no slot behind it", b.number(0, slots, 3), NONE);
      check.due("begin", b.begin(0), true);
      check.due("the size of its frame", b.told(2), slots + 2);
    }
  }

  @Sentence(of = "Promise 3",
      says = "or a number is not as said",
      where = "the first INS of the SLOTS")
  static void insAsSaid(Check check) {
    for (int ins : new int[] {-1, 6, 7, MIN, MAX, MAX - 1}) {
      check.due("ins " + ins + " of 5 slots", new Bench().again(5, ins), NONE);
      check.due("ins " + ins + " of 5 slots, with OUTS", new Bench().again(5, ins, 0, 1), NONE);
    }
    check.due("ins 2 of 1 slot", new Bench().again(1, 2), NONE);
    for (int ins : new int[] {0, 1, 4, 5}) {
      Bench b = new Bench();
      check.due("ins " + ins + " of 5 slots", b.again(5, ins), 0);
      check.due("begin with one more", b.begin(0, new int[ins + 1]), false);
      check.due("begin with as many", b.begin(0, new int[ins]), true);
    }
  }

  @Sentence(of = "Promise 3", says = "or a number is not as said", where = "OUTS, at most 8")
  static void outsAtMostEight(Check check) {
    check.due("9", new Bench().again(40, 0, 0, 1, 2, 3, 4, 5, 6, 7, 8), NONE);
    check.due("9, all the same", new Bench().again(1, 0, 0, 0, 0, 0, 0, 0, 0, 0, 0), NONE);
    check.due("10", new Bench().again(40, 0, 0, 1, 2, 3, 4, 5, 6, 7, 8, 9), NONE);
    check.due("8", new Bench().again(40, 0, 0, 1, 2, 3, 4, 5, 6, 7), 0);
    check.due("8, all the same", new Bench().again(1, 0, 0, 0, 0, 0, 0, 0, 0, 0), 0);
    check.due("none", new Bench().again(40, 0), 0);
  }

  @Sentence(of = "Promise 3",
      says = "or a number is not as said",
      where = "INS and OUTS at most 10 together")
  static void insAndOutsAtMostTen(Check check) {
    for (int ins = 0; ins <= 12; ins++) {
      for (int outs = 0; outs <= 8; outs++) {
        int due = ins + outs <= 10 ? 0 : NONE;
        check.due(ins + " and " + outs, new Bench().again(40, ins, new int[outs]), due);
      }
    }
    check.due("10 INS of 10 slots", new Bench().again(10, 10), 0);
  }

  @Sentence(of = "Promise 3", says = "or a number is not as said (OUTS are SLOTS)")
  static void outsAreSlots(Check check) {
    for (int wrong : new int[] {-1, 5, 6, 39, MIN, MAX}) {
      check.due("OUT " + wrong + " of 5 slots", new Bench().again(5, 0, wrong), NONE);
      check.due("first, OUT " + wrong, new Bench().again(5, 0, wrong, 0, 1), NONE);
      check.due("last, OUT " + wrong, new Bench().again(5, 0, 0, 1, wrong), NONE);
    }
    check.due("the 8th is none", new Bench().again(5, 0, 0, 1, 2, 3, 4, 0, 1, 5), NONE);
    check.due("the first and the last slot", new Bench().again(5, 0, 0, 4), 0);
    check.due("the last of 40", new Bench().again(40, 0, 39), 0);
    check.due("behind the last of 40", new Bench().again(40, 0, 40), NONE);
  }

  @Sentence(of = "Promise 3", says = "Takes the row")
  static void takesTheRow(Check check) {
    Bench b = new Bench();
    b.again(2, 0, 0, 1);
    int next = b.procedure(true, 2, 0);
    b.exit(next);
    b.begin(next);
    check.due("run of the next", b.run(1), 1);
    check.due("the next has no OUTS", b.tell(0), Bench.THROWS);

    Bench c = new Bench();
    check.due("refused", c.again(0, 0, 0, 1), NONE);
    int p = c.procedure(true, 2, 0);
    c.exit(p);
    c.begin(p);
    check.due("run of the one behind", c.run(1), 1);
    check.due("it has no OUTS either", c.tell(0), Bench.THROWS);
  }

  @Sentence(of = "Promise 3", says = "NONE, refused", where = "nothing changes")
  static void refusedChangesNothing(Check check) {
    Bench b = Bench.inState(1);
    String told = b.told();
    check.due("refused", b.again(0, 0), NONE);
    check.due("told as before", b.told(), told);
    check.due("a new one in STATE 1", b.again(1, 0), 1);
    check.due("told as before still", b.told(), told);
    check.due("the solution is there still", b.text(0), "7");
  }
}
