/** What the terms say of values, and of the instructions that work on them (promise 6). */
public final class TermsValuesTest {
  private static final int MIN = Integer.MIN_VALUE;
  private static final int MAX = Integer.MAX_VALUE;

  public static void main(String[] args) {
    Sentences.testAll(TermsValuesTest.class);
  }

  /** Where a frame lay whose slots had other values, too. */
  @Sentence(of = "Terms", says = "a VALUE in each SLOT (NUMBER 0 at first)")
  static void zeroAtFirst(Check check) {
    Bench b = new Bench();
    int q = b.again(3, 0);
    b.number(q, 0, 5);
    b.make(q, 1, 3, 0);
    b.number(q, 2, 6);
    b.exit(q);
    int r = b.again(3, 1);
    b.exit(r);
    int p = b.again(2, 0);
    b.call(p, q);
    b.call(p, r, 0);
    b.begin(p);
    b.run(6);
    check.due("frames", b.told(8), 2);
    for (int k = 0; k < 3; k++) check.due("slot " + k, b.slot(k), 0);

    // what the slots for the OUTS have is nothing to the called frame
    Bench c = new Bench();
    int twoOuts = c.again(5, 1, 3, 4);
    c.exit(twoOuts);
    int caller = c.again(3, 3, 1, 2);
    c.call(caller, twoOuts, 0, 1, 2);
    c.exit(caller);
    c.begin(caller, 7, 8, 9);
    c.run(1);
    check.due("the argument", c.slot(0), 7);
    for (int k = 1; k < 5; k++) check.due("slot " + k + " behind it", c.slot(k), 0);
    check.due("the OUTS are 0 at its EXIT", c.solutions(), "0 #2");
  }

  @Sentence(of = "Terms",
      says = "A CELL with FIELDS takes 1 more than these of the HEAP, others nothing")
  static void heapOfCells(Check check) {
    int[] due = {0, 2, 3, 4, 5};
    for (int fields = 0; fields <= 4; fields++) {
      Bench b = new Bench();
      int p = b.again(1, 0);
      b.make(p, 0, 0, new int[fields]);
      b.make(p, 0, 0, new int[fields]);
      b.begin(p);
      b.run(1);
      check.due("HEAP of " + fields + " fields", b.told(4), due[fields]);
      b.run(1);
      check.due("HEAP of two of them", b.told(4), 2 * due[fields]);
      check.due("the greatest HEAP", b.told(5), 2 * due[fields]);
    }
  }

  @Sentence(of = "Terms", says = "behind the last one: FAIL")
  static void behindTheLast(Check check) {
    Bench b = new Bench();
    int p = b.again(1, 0, 0);
    b.begin(p);
    check.due("a procedure without instructions", b.run(9), 2);
    check.due("is a step", b.told(1), 1);

    Bench c = new Bench();
    int q = c.again(1, 0, 0);
    c.redo(q, 4);
    c.redo(q, 6);
    c.number(q, 0, 1);
    c.go(q, 1999);
    c.number(q, 0, 3);
    c.exit(q);
    c.begin(q);
    check.due("GO and TRY behind the last: back to the first redo point", c.solutions(), "3 #2");
    check.due("steps", c.told(1), 8);

    Bench d = new Bench();
    int r = d.again(1, 0, 0);
    d.redo(r, 3);
    d.go(r, 2);
    d.go(r, 5);
    d.number(r, 0, 4);
    d.exit(r);
    d.begin(r);
    check.due("just behind the last", d.solutions(), "4 #2");
  }

  @Sentence(of = "Terms", says = "0 NUMBER a, n: a becomes it. 1 MOVE a, b: a becomes what b has")
  static void numberAndMove(Check check) {
    Bench b = new Bench();
    int p = b.again(3, 0, 0);
    b.number(p, 1, MIN);
    b.move(p, 0, 1);
    b.number(p, 1, MAX);
    b.make(p, 2, 4, 1);
    b.move(p, 1, 2);
    b.move(p, 1, 1);
    b.exit(p);
    b.begin(p);
    b.run(1);
    check.due("NUMBER", b.slot(1), MIN);
    b.run(1);
    check.due("MOVE", b.slot(0), MIN);
    check.due("MOVE leaves b", b.slot(1), MIN);
    b.run(4);
    check.due("MOVE of a cell, and to itself", b.slot(1), (1L << 40) + 4);
    check.due("solution", b.solutions(), "-2147483648 #2");
  }

  @Sentence(of = "Terms", says = "2 MAKE .. a becomes the CELL with the row's VALUES as FIELDS")
  static void make(Check check) {
    Bench b = new Bench();
    int p = b.again(2, 0, 0);
    b.number(p, 0, 5);
    b.make(p, 0, 2, 0, 1, 0);
    b.make(p, 0, 3, 0, 0);
    b.make(p, 1, 4);
    b.move(p, 1, 0);
    b.number(p, 1, 6);
    b.exit(p);
    b.begin(p);
    check.due("solution", b.solutions(), "c3(c2(5,0,5),c2(5,0,5)) #2");
  }

  private static String taken(int tag, int... row) {
    Bench b = new Bench();
    int p = b.again(4, 4, 0, 1, 2, 3);
    b.make(p, 3, 7, 3, 3);
    b.make(p, 3, 6, 0, 1, 2);
    b.take(p, 3, tag, row);
    b.exit(p);
    b.begin(p, 10, 20, 30, 40);
    if (b.run(9) != 1) return "#" + b.told(0);
    return b.text(0) + " " + b.text(1) + " " + b.text(2) + " " + b.text(3);
  }

  @Sentence(of = "Terms", says = "3 TAKE .. the row's SLOTS become these, from the left")
  static void take(Check check) {
    check.due("three", taken(6, 1, 2, 0), "30 10 20 c6(10,20,30)");
    check.due("into its own slot", taken(6, 3, 3, 0), "30 20 30 20");
    check.due("into its own slot first", taken(6, 3, 0, 1), "20 30 30 10");
    check.due("thrice into one", taken(6, 0, 0, 0), "30 20 30 c6(10,20,30)");

    Bench b = new Bench();
    int p = b.again(2, 1, 0);
    b.make(p, 1, 0);
    b.take(p, 1, 0);
    b.exit(p);
    b.begin(p, 3);
    check.due("of a cell without fields", b.solutions(), "3 #2");
  }

  @Sentence(of = "Terms",
      says = "3 TAKE .. if a has a CELL with that TAG and as many FIELDS .. else FAIL")
  static void takeFails(Check check) {
    check.due("another tag", taken(5, 1, 2, 0), "#2");
    check.due("fewer", taken(6, 1, 2), "#2");
    check.due("none", taken(6), "#2");
    check.due("more", taken(6, 0, 1, 2, 3), "#2");
    check.due("another tag and none", taken(31), "#2");

    Bench b = new Bench();
    int p = b.again(2, 1, 0);
    b.take(p, 1, 0);
    b.exit(p);
    b.begin(p, 3);
    check.due("a number", b.solutions(), "#2");
    int q = b.again(2, 1, 0);
    b.make(q, 1, 0);
    b.take(q, 1, 0, 0);
    b.exit(q);
    b.begin(q, 3);
    check.due("a cell without fields, for one", b.solutions(), "#2");
  }

  /** The STATE after SAME of two terms, in two slots. */
  private static int sameOf(Term left, Term right) {
    Bench b = new Bench();
    int p = b.again(40, 0);
    left.build(b, p, 0, 2);
    if (left == right) b.move(p, 1, 0);
    else right.build(b, p, 1, 2);
    b.same(p, 0, 1);
    b.exit(p);
    b.begin(p);
    return b.run(1000);
  }

  private static final Term THREE = Term.number(3);
  private static final Term FOUR = Term.number(4);
  private static final Term BARE = Term.cell(3);

  @Sentence(of = "Terms",
      says = "4 SAME .. at the first that differ, in being a NUMBER or a CELL, in NUMBER, TAG "
          + "or how many FIELDS, FAIL")
  static void same(Check check) {
    check.due("numbers", sameOf(THREE, Term.number(3)), 1);
    check.due("other numbers", sameOf(THREE, FOUR), 2);
    check.due("MIN and MAX", sameOf(Term.number(MIN), Term.number(MAX)), 2);
    check.due("number and cell of that tag", sameOf(THREE, BARE), 2);
    check.due("cell and number", sameOf(BARE, THREE), 2);
    check.due("number 0 and cell", sameOf(Term.number(0), Term.cell(0)), 2);
    check.due("cells without fields", sameOf(BARE, Term.cell(3)), 1);
    check.due("other tags", sameOf(BARE, Term.cell(4)), 2);
    check.due("none and one field", sameOf(BARE, Term.cell(3, THREE)), 2);
    check.due("one field and none", sameOf(Term.cell(3, THREE), BARE), 2);
    check.due("three fields and four", sameOf(Term.cell(3, THREE, THREE, THREE),
        Term.cell(3, THREE, THREE, THREE, THREE)), 2);
    check.due("other tags with fields", sameOf(Term.cell(2, THREE), Term.cell(3, THREE)), 2);
    for (int fields = 1; fields <= 4; fields++) {
      for (int other = 0; other <= fields; other++) {
        Term[] left = new Term[fields];
        Term[] right = new Term[fields];
        for (int i = 0; i < fields; i++) {
          left[i] = Term.cell(1, THREE);
          right[i] = Term.cell(1, i == other ? FOUR : THREE);
        }
        check.due(fields + " fields, field " + other + " is another",
            sameOf(Term.cell(5, left), Term.cell(5, right)), other < fields ? 2 : 1);
      }
    }
  }

  @Sentence(of = "Terms", says = "4 SAME .. when a 5001st one would be looked at: WRONG")
  static void sameCountsPairs(Check check) {
    for (int pairs : new int[] {1, 2, 3, 4998, 4999, 5000}) {
      Term term = Term.ofPairs(pairs);
      check.due(pairs + " pairs", sameOf(term, term), 1);
      check.due(pairs + " pairs of two terms", sameOf(term, Term.ofPairs(pairs)), 1);
    }
    for (int pairs : new int[] {5001, 5002, 100000}) {
      Term term = Term.ofPairs(pairs);
      check.due(pairs + " pairs", sameOf(term, term), 6);
      check.due(pairs + " pairs of two terms", sameOf(term, Term.ofPairs(pairs)), 6);
    }
  }

  @Sentence(of = "Terms",
      says = "4 SAME .. PAIRS of VALUES are looked at, each ahead of its FIELDS, these from "
          + "the left")
  static void sameOrder(Check check) {
    Term many = Term.ofPairs(5000);
    Term most = Term.ofPairs(4998);
    Term less = Term.ofPairs(4997);
    check.due("the tags ahead of the fields", sameOf(Term.cell(1, many), Term.cell(2, many)), 2);
    check.due("how many ahead of the fields",
        sameOf(Term.cell(1, many), Term.cell(1, many, many)), 2);
    check.due("the left one first", sameOf(Term.cell(1, THREE, many), Term.cell(1, FOUR, many)), 2);
    check.due("the right one last", sameOf(Term.cell(1, many, THREE), Term.cell(1, many, FOUR)), 6);
    check.due("the 5000th differs", sameOf(Term.cell(1, most, THREE), Term.cell(1, most, FOUR)), 2);
    check.due("the 5001st differs",
        sameOf(Term.cell(1, most, THREE, THREE), Term.cell(1, most, THREE, FOUR)), 6);
    check.due("the 5000th differs, of three",
        sameOf(Term.cell(1, less, THREE, THREE), Term.cell(1, less, THREE, FOUR)), 2);
  }

  @Sentence(of = "Terms",
      says = "4 SAME .. PAIRS of VALUES are looked at",
      where = "behind a SAME that failed, and of CELLS nested deep")
  static void sameAgain(Check check) {
    Bench b = new Bench();
    int p = b.again(4, 4, 0);
    b.redo(p, 4);
    b.make(p, 0, 1, 0, 1);
    b.make(p, 2, 1, 2, 3);
    b.same(p, 0, 2);
    b.same(p, 1, 1);
    b.exit(p);
    b.begin(p, 1, 2, 3, 4);
    check.due("SAME behind one that failed", b.solutions(), "1 #2");

    Bench c = new Bench();
    int q = c.again(5, 1, 3);
    c.loop(q);
    c.same(q, 3, 3);
    c.exit(q);
    c.begin(q, 2000);
    check.due("SAME of 2000 cells, each in the next", c.run(MAX), 1);
    check.due("its HEAP", c.told(4), 4000);
  }

  private static String summed(int left, int right, int operation) {
    Bench b = new Bench();
    int p = b.again(3, 2, 2);
    b.sum(p, 2, 0, 1, operation);
    b.exit(p);
    b.begin(p, left, right);
    return b.solutions();
  }

  @Sentence(of = "Terms",
      says = "5 SUM a, b, c, an OPERATION 0 + 1 - 2 * 3 / 4 rest .. a becomes it")
  static void sum(Check check) {
    check.due("+", summed(4, -9, 0), "-5 #2");
    check.due("-", summed(4, -9, 1), "13 #2");
    check.due("*", summed(4, -9, 2), "-36 #2");
    check.due("/", summed(17, 5, 3), "3 #2");
    check.due("rest", summed(17, 5, 4), "2 #2");
    check.due("0 + 0", summed(0, 0, 0), "0 #2");
    check.due("0 / 5", summed(0, 5, 3), "0 #2");
    for (int n : new int[] {1, -1, 40, MAX, MIN + 1}) {
      check.due(n + " / 1", summed(n, 1, 3), n + " #2");
      check.due(n + " / -1", summed(n, -1, 3), -n + " #2");
      check.due(n + " / itself", summed(n, n, 3), "1 #2");
      check.due(n + " rest 1", summed(n, 1, 4), "0 #2");
      check.due(n + " rest -1", summed(n, -1, 4), "0 #2");
      check.due(n + " * 1", summed(n, 1, 2), n + " #2");
    }
    Bench b = new Bench();
    int p = b.again(1, 1, 0);
    b.sum(p, 0, 0, 0, 2);
    b.exit(p);
    b.begin(p, -6);
    check.due("all three are one slot", b.solutions(), "36 #2");
  }

  @Sentence(of = "Terms", says = "5 SUM .. as ints that wrap")
  static void sumWraps(Check check) {
    check.due("MAX + 1", summed(MAX, 1, 0), "-2147483648 #2");
    check.due("MIN + -1", summed(MIN, -1, 0), "2147483647 #2");
    check.due("MIN + MIN", summed(MIN, MIN, 0), "0 #2");
    check.due("MIN - 1", summed(MIN, 1, 1), "2147483647 #2");
    check.due("0 - MIN", summed(0, MIN, 1), "-2147483648 #2");
    check.due("65536 * 65537", summed(65536, 65537, 2), "65536 #2");
    check.due("MAX * MAX", summed(MAX, MAX, 2), "1 #2");
    check.due("MIN * -1", summed(MIN, -1, 2), "-2147483648 #2");
    check.due("MIN / -1", summed(MIN, -1, 3), "-2147483648 #2");
    check.due("MIN rest -1", summed(MIN, -1, 4), "0 #2");
  }

  @Sentence(of = "Terms", says = "5 SUM .. towards 0, with the sign of b")
  static void sumSigns(Check check) {
    int[][] pairs = {{7, 2}, {-7, 2}, {7, -2}, {-7, -2}, {1, 2}, {-1, 2}, {MIN, 3}, {MAX, MIN}};
    String[] quotients = {"3", "-3", "-3", "3", "0", "0", "-715827882", "0"};
    String[] rests = {"1", "-1", "1", "-1", "1", "-1", "-2", "2147483647"};
    for (int i = 0; i < pairs.length; i++) {
      String name = pairs[i][0] + ", " + pairs[i][1];
      check.due("/ of " + name, summed(pairs[i][0], pairs[i][1], 3), quotients[i] + " #2");
      check.due("rest of " + name, summed(pairs[i][0], pairs[i][1], 4), rests[i] + " #2");
    }
  }

  @Sentence(of = "Terms", says = "5 SUM .. by 0: FAIL")
  static void sumByZero(Check check) {
    for (int left : new int[] {7, 0, -7, MIN, MAX}) {
      check.due(left + " / 0", summed(left, 0, 3), "#2");
      check.due(left + " rest 0", summed(left, 0, 4), "#2");
      check.due(left + " * 0", summed(left, 0, 2), "0 #2");
      check.due(left + " + 0", summed(left, 0, 0), left + " #2");
      check.due(left + " - 0", summed(left, 0, 1), left + " #2");
    }
  }

  private static boolean holds(int left, int right, int relation) {
    Bench b = new Bench();
    int p = b.again(2, 2);
    b.compare(p, 0, 1, relation);
    b.exit(p);
    b.begin(p, left, right);
    return b.run(9) == 1;
  }

  @Sentence(of = "Terms",
      says = "6 COMPARE a, b, a RELATION 0 < 1 =< 2 > 3 >= 4 equal 5 not: if it doesn't hold, "
          + "FAIL")
  static void compare(Check check) {
    int[][] pairs = {
      {1, 2}, {2, 2}, {3, 2}, {MIN, MAX}, {MAX, MIN}, {MIN, MIN}, {-1, 0}, {MAX, -1},
    };
    String[] due = {
      "110001", "010110", "001101", "110001", "001101", "010110", "110001", "001101",
    };
    for (int i = 0; i < pairs.length; i++) {
      for (int relation = 0; relation < 6; relation++) {
        check.due("relation " + relation + " of " + pairs[i][0] + ", " + pairs[i][1],
            holds(pairs[i][0], pairs[i][1], relation), due[i].charAt(relation) == '1');
      }
    }
  }

  /** The STATE after an instruction that meets a cell, above a redo point. */
  private static String withCell(int cellSlot, int kind, int a, int b, int c, int d) {
    Bench bench = new Bench();
    int p = bench.again(3, 0);
    bench.redo(p, 3);
    bench.make(p, cellSlot, 0);
    bench.add(p, kind, a, b, c, d);
    bench.exit(p);
    bench.begin(p);
    return bench.run(3) + " " + bench.run(9) + " " + bench.told(1) + " " + bench.told(7);
  }

  @Sentence(of = "Terms", says = "5 and 6 want NUMBERS: else WRONG")
  static void wantNumbers(Check check) {
    for (int operation = 0; operation < 5; operation++) {
      check.due("cell left of " + operation, withCell(0, 5, 2, 0, 1, operation), "6 6 3 1");
      check.due("cell right of " + operation, withCell(1, 5, 2, 0, 1, operation), "6 6 3 1");
      check.due("cells of operation " + operation, withCell(0, 5, 2, 0, 0, operation), "6 6 3 1");
    }
    for (int relation = 0; relation < 6; relation++) {
      check.due("cell left of " + relation, withCell(0, 6, 0, 1, relation, 0), "6 6 3 1");
      check.due("cell right of " + relation, withCell(1, 6, 0, 1, relation, 0), "6 6 3 1");
      check.due("cells of relation " + relation, withCell(0, 6, 0, 0, relation, 0), "6 6 3 1");
    }
    Bench b = new Bench();
    int p = b.again(2, 1, 0);
    b.make(p, 1, 3, 0);
    b.sum(p, 1, 0, 0, 0);
    b.move(p, 0, 1);
    b.exit(p);
    b.begin(p, 4);
    check.due("a cell in the slot that becomes it is no matter", b.solutions(), "8 #2");
  }

  @Sentence(of = "Terms", says = "12, 13: WRONG if a has a CELL")
  static void cutAndDropWantNumbers(Check check) {
    check.due("CUT to a cell", withCell(0, 12, 0, 0, 0, 0), "6 6 3 1");
    check.due("DROP of a cell", withCell(0, 13, 0, 0, 0, 0), "6 6 3 1");
    check.due("MARK of a slot with a cell is fine", withCell(0, 11, 0, 0, 0, 0), "0 1 4 1");
  }

  @Sentence(of = "Terms",
      says = "7 GO to: that is next. 8 UNLESS .. if a has no CELL with that TAG, to is next")
  static void goAndUnless(Check check) {
    Bench b = new Bench();
    int p = b.again(3, 0, 0);
    b.go(p, 3);
    b.fail(p);
    b.fail(p);
    b.make(p, 1, 4, 0);
    b.unless(p, 1, 4, 1); // has it: the next
    b.unless(p, 1, 5, 7); // another tag: 7
    b.fail(p);
    b.unless(p, 2, 0, 9); // a number: 9
    b.fail(p);
    b.make(p, 1, 31);
    b.unless(p, 1, 31, 1); // a cell without fields has it too
    b.number(p, 0, 6);
    b.exit(p);
    b.begin(p);
    check.due("GO and UNLESS", b.solutions(), "6 #2");
  }

  @Sentence(of = "Terms",
      says = "What would make the SIZE or the HEAP greater than its limit is not done: STACK "
          + "FULL, HEAP FULL (the STEP counts)",
      where = "HEAP FULL")
  static void heapFull(Check check) {
    for (int fields = 1; fields <= 4; fields++) {
      Bench b = new Bench();
      int p = b.again(1, 0);
      b.make(p, 0, 0, new int[fields]);
      b.beginWithin(p, 100, fields);
      check.due(fields + " fields in " + fields, b.run(1), 5);
      check.due("it is not done, its step counts", b.told(), "5 1 3 3 0 0 0 0 1");
      b.beginWithin(p, 100, fields + 1);
      check.due(fields + " fields in one more", b.run(1), 0);
      b.beginWithin(p, 100, 0);
      check.due(fields + " fields in 0", b.run(1), 5);
    }
    Bench b = new Bench();
    int p = b.again(1, 0);
    b.make(p, 0, 0);
    b.make(p, 0, 0, 0, 0);
    b.make(p, 0, 0, 0);
    b.make(p, 0, 7);
    b.beginWithin(p, 100, 0);
    check.due("no fields, no HEAP", b.run(1), 0);
    b.beginWithin(p, 100, 5);
    check.due("two and one fit 5, and then none", b.run(4), 0);
    check.due("told", b.told(), "0 4 3 3 5 5 0 0 1");
    b.beginWithin(p, 100, 4);
    check.due("but not 4", b.run(3), 5);
    check.due("told", b.told(), "5 3 3 3 3 3 0 0 1");

    int q = b.again(1, 0);
    b.make(q, 0, 0, 0);
    b.make(q, 0, 0, 0);
    b.go(q, 0);
    b.begin(q);
    check.due("20,000", b.run(14999), 0);
    check.due("HEAP of 20,000", b.told(4), 20000);
    check.due("beyond 20,000", b.run(MAX), 5);
    check.due("the greatest HEAP", b.told(5), 20000);
  }
}
