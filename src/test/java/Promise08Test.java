/** Promise 8: tell. */
public final class Promise08Test {
  private static final int NONE = RedoMachine.NONE;
  private static final int MIN = Integer.MIN_VALUE;
  private static final int MAX = Integer.MAX_VALUE;

  public static void main(String[] args) {
    Sentences.testAll(Promise08Test.class);
  }

  @Sentence(of = "Promise 8", says = "OUT becomes the k-th OUT of a SOLUTION as a text")
  static void kthOut(Check check) {
    Bench b = new Bench();
    int p = b.again(3, 3, 2, 0, 1, 0);
    b.exit(p);
    b.begin(p, 10, 211, 3222);
    b.run(9);
    check.due("OUT 0", b.text(0), "3222");
    check.due("OUT 1", b.text(1), "10");
    check.due("OUT 2", b.text(2), "211");
    check.due("OUT 3", b.text(3), "10");
    check.due("OUT 0 again", b.text(0), "3222");
  }

  @Sentence(of = "Promise 8", says = "a NUMBER in decimal")
  static void numberInDecimal(Check check) {
    for (int n : new int[] {0, 1, -1, 9, 10, -10, 99, 100, MAX, MAX - 1, MIN, MIN + 1}) {
      check.due("text", Bench.solutionOf(Term.number(n)).text(0), String.valueOf(n));
    }
  }

  @Sentence(of = "Promise 8", says = "a CELL c and its TAG in decimal")
  static void cellWithTag(Check check) {
    for (int tag : new int[] {0, 1, 9, 10, 30, 31}) {
      check.due("tag " + tag, Bench.solutionOf(Term.cell(tag)).text(0), "c" + tag);
      check.due("tag " + tag + " with a field",
          Bench.solutionOf(Term.cell(tag, Term.number(5))).text(0), "c" + tag + "(5)");
    }
  }

  @Sentence(of = "Promise 8",
      says = "and its FIELDS, if there are some, in ( ) with a comma between")
  static void cellWithFields(Check check) {
    Term n = Term.number(-7);
    Term none = Term.cell(3);
    Term one = Term.cell(4, none);
    check.due("none", Bench.solutionOf(none).text(0), "c3");
    check.due("one", Bench.solutionOf(one).text(0), "c4(c3)");
    check.due("two", Bench.solutionOf(Term.cell(0, n, one)).text(0), "c0(-7,c4(c3))");
    check.due("three", Bench.solutionOf(Term.cell(0, one, n, none)).text(0), "c0(c4(c3),-7,c3)");
    check.due("four", Bench.solutionOf(Term.cell(0, n, n, none, n)).text(0), "c0(-7,-7,c3,-7)");
    Term nested = Term.cell(1, Term.cell(2, one, n), Term.cell(2, n, one), one);
    check.due("nested", Bench.solutionOf(nested).text(0),
        "c1(c2(c4(c3),-7),c2(-7,c4(c3)),c4(c3))");
  }

  @Sentence(of = "Promise 8", says = "at most 1000 characters")
  static void atMostThousand(Check check) {
    for (int length : new int[] {11, 12, 100, 998, 999, 1000, 1001, 1002, 1100, 2000, 3000}) {
      Term term = Term.ofLength(length);
      check.due("the length as built", term.text().length(), length);
      Bench b = Bench.solutionOf(term);
      int due = Math.min(length, 1000);
      check.due("tell of " + length, b.tell(0), due);
      check.due("the last one", b.letter(due - 1), term.text().charAt(due - 1));
      check.due("none behind it", b.letter(due), NONE);
    }
  }

  @Sentence(of = "Promise 8", says = "what would come behind is left out")
  static void restIsLeftOut(Check check) {
    Term tail = Term.cell(31, Term.number(MIN), Term.cell(10), Term.cell(5, Term.number(42)));
    for (int ahead = 955; ahead <= 1000; ahead++) {
      Term term = Term.cell(0, Term.ofLength(ahead - 4), tail);
      String whole = term.text();
      int due = Math.min(whole.length(), 1000);
      Bench b = Bench.solutionOf(term);
      check.due("tell with " + ahead + " ahead", b.tell(0), due);
      check.due("the end with " + ahead + " ahead", b.letters(940, 1002),
          whole.substring(940, due) + "#".repeat(1002 - due));
    }
  }

  @Sentence(of = "Promise 8",
      says = "what would come behind is left out",
      where = "all ahead of it is there")
  static void allAheadIsThere(Check check) {
    Term term = Term.cell(12, Term.ofLength(300), Term.ofLength(501), Term.ofLength(400));
    String whole = term.text();
    for (int from = 0; from < 1000; from += 200) {
      Bench b = Bench.solutionOf(term);
      check.due("tell", b.tell(0), 1000);
      check.due("from " + from, b.letters(from, from + 200), whole.substring(from, from + 200));
    }
  }

  @Sentence(of = "Promise 8",
      says = "what would come behind is left out",
      where = "of CELLS nested deep")
  static void deepCells(Check check) {
    for (int deep : new int[] {199, 200, 249, 250, 251, 333, 334, 2000}) {
      Bench b = new Bench();
      int p = b.again(4, 1, 3, 0);
      b.loop(p);
      b.exit(p);
      b.begin(p, deep);
      check.due("run", b.run(MAX), 1);
      String whole = "c0(".repeat(deep) + "0" + ")".repeat(deep);
      int due = Math.min(1000, whole.length());
      check.due("tell of " + deep, b.tell(0), due);
      check.due("the end", b.letters(due - 9, due), whole.substring(due - 9, due));
      check.due("a short one behind it", b.text(1), "0");
    }
  }

  @Sentence(of = "Promise 8", says = "how many")
  static void howMany(Check check) {
    Bench b = new Bench();
    int p = b.again(2, 1, 0, 1);
    b.make(p, 1, 31, 0);
    b.exit(p);
    b.begin(p, -5);
    b.run(9);
    check.due("of the short one", b.tell(0), 2);
    check.due("of the longer one", b.tell(1), 7);
    check.due("of the short one again", b.tell(0), 2);
    check.due("OUT", b.out(), "-5");
  }

  @Sentence(of = "Promise 8", says = "NoSuchElementException: the STATE isn't 1 .. (OUT stays)")
  static void throwsInOtherStates(Check check) {
    for (int state : new int[] {NONE, 0, 2, 3, 4, 5, 6}) {
      Bench b = Bench.inState(state);
      for (int k : new int[] {0, 1, -1}) {
        check.due("tell(" + k + ") in STATE " + state, b.tell(k), Bench.THROWS);
      }
      check.due("OUT stays empty", b.letter(0), NONE);
    }
    for (int state : new int[] {0, 2, 3, 4, 5, 6}) {
      Bench b = new Bench();
      int told = b.again(1, 1, 0);
      b.exit(told);
      b.begin(told, -45);
      b.run(9);
      check.due("tell in STATE 1", b.tell(0), 3);
      int p = b.again(1, 0, 0);
      if (state == 2) b.fail(p);
      if (state == 3) b.go(p, 0);
      if (state == 4) b.redo(p, 0);
      if (state == 5) b.make(p, 0, 0, 0);
      if (state == 6) b.make(p, 0, 0);
      if (state == 6) b.drop(p, 0);
      b.beginWithin(p, 3, 0);
      if (state != 0) b.run(MAX);
      check.due("in STATE", b.told(0), state);
      check.due("tell in STATE " + state, b.tell(0), Bench.THROWS);
      check.due("OUT stays in STATE " + state, b.out(), "-45");
    }
  }

  @Sentence(of = "Promise 8", says = "NoSuchElementException: .. there is no such one (OUT stays)")
  static void throwsForNoSuchOne(Check check) {
    for (int outs = 0; outs <= 8; outs++) {
      Bench b = new Bench();
      int p = b.again(9, 1, new int[outs]);
      b.exit(p);
      b.begin(p, 63);
      b.run(9);
      if (outs > 0) check.due("the last of " + outs, b.tell(outs - 1), 2);
      for (int k : new int[] {-1, outs, outs + 1, 8, 9, MIN, MAX}) {
        check.due("OUT " + k + " of " + outs, b.tell(k), Bench.THROWS);
        check.due("OUT stays", b.letter(0), outs > 0 ? '6' : NONE);
      }
      check.due("the STATE is still 1", b.told(0), 1);
    }
  }

  @Sentence(of = "Promise 8",
      says = "OUT becomes the k-th OUT of a SOLUTION",
      where = "in no other call")
  static void outStaysInOtherCalls(Check check) {
    Bench b = new Bench();
    int p = b.again(1, 1, 0);
    b.redo(p, 2);
    b.exit(p);
    b.number(p, 0, 8);
    b.exit(p);
    b.begin(p, 1234);
    b.run(9);
    check.due("tell", b.tell(0), 4);
    b.run(9);
    check.due("OUT behind run", b.out(), "1234");
    b.begin(p, 5);
    check.due("OUT behind begin", b.out(), "1234");
    b.again(2, 0, 0);
    b.exit(1);
    b.put(3);
    b.slot(0);
    b.told(0);
    check.due("OUT behind the others", b.out(), "1234");
    b.run(9);
    check.due("the first solution", b.text(0), "5");
  }

  /** What a later redo point's cells were is not told any more. */
  @Sentence(of = "Promise 8",
      says = "OUT becomes the k-th OUT of a SOLUTION",
      where = "of each as it is then")
  static void eachSolutionAsItIsThen(Check check) {
    Term first = Term.cell(7, Term.number(1), Term.cell(8, Term.number(2)));
    Term second = Term.cell(9, Term.cell(10, Term.number(3), Term.number(4)));
    Bench b = new Bench();
    int p = b.again(9, 0, 0);
    b.redo(p, 6);
    first.build(b, p, 0, 1); // 4 instructions
    b.exit(p);
    second.build(b, p, 0, 1);
    b.exit(p);
    b.begin(p);
    check.due("solutions", b.solutions(), first.text() + " " + second.text() + " #2");
  }
}
