/** What the terms say of values, of the stack and of what each instruction does (promise 6). */
public final class TermsTest {
  private static final int MIN = Integer.MIN_VALUE;
  private static final int MAX = Integer.MAX_VALUE;

  public static void main(String[] args) {
    Sentences.testAll(TermsTest.class);
  }

  @Sentence(of = "Terms", says = "FRAMES (2 more than their SLOTS) and REDO points (3)")
  static void sizes(Check check) {
    Bench b = new Bench();
    int q = b.again(40, 0);
    b.redo(q, 0);
    int p = b.again(1, 0);
    b.redo(p, 1);
    b.call(p, q);
    b.begin(p);
    check.due("a frame of 1 slot", b.told(2), 3);
    b.run(1);
    check.due("and a redo point", b.told(2), 6);
    b.run(1);
    check.due("and a frame of 40 slots", b.told(2), 48);
    b.run(1);
    check.due("and a redo point", b.told(2), 51);
  }

  /** Where a frame lay whose slots had other values, too. */
  @Sentence(of = "Terms", says = "a VALUE in each SLOT (NUMBER 0 at first)")
  static void zeroAtFirst(Check check) {
    Bench b = new Bench();
    int q = b.again(3, 0);
    b.number(q, 0, 5);
    b.make(q, 1, 3, 0);
    b.number(q, 2, 6);
    b.exit(q);
    int r = b.again(3, 1);
    b.exit(r);
    int p = b.again(2, 0);
    b.call(p, q);
    b.call(p, r, 0);
    b.begin(p);
    b.run(6);
    check.due("frames", b.told(8), 2);
    for (int k = 0; k < 3; k++) check.due("slot " + k, b.slot(k), 0);

    // what the slots for the OUTS have is nothing to the called frame
    Bench c = new Bench();
    int twoOuts = c.again(5, 1, 3, 4);
    c.exit(twoOuts);
    int caller = c.again(3, 3, 1, 2);
    c.call(caller, twoOuts, 0, 1, 2);
    c.exit(caller);
    c.begin(caller, 7, 8, 9);
    c.run(1);
    check.due("the argument", c.slot(0), 7);
    for (int k = 1; k < 5; k++) check.due("slot " + k + " behind it", c.slot(k), 0);
    check.due("the OUTS are 0 at its EXIT", c.solutions(), "0 #2");
  }

  @Sentence(of = "Terms",
      says = "A CELL with FIELDS takes 1 more than these of the HEAP, others nothing")
  static void heapOfCells(Check check) {
    int[] due = {0, 2, 3, 4, 5};
    for (int fields = 0; fields <= 4; fields++) {
      Bench b = new Bench();
      int p = b.again(1, 0);
      b.make(p, 0, 0, new int[fields]);
      b.make(p, 0, 0, new int[fields]);
      b.begin(p);
      b.run(1);
      check.due("HEAP of " + fields + " fields", b.told(4), due[fields]);
      b.run(1);
      check.due("HEAP of two of them", b.told(4), 2 * due[fields]);
      check.due("the greatest HEAP", b.told(5), 2 * due[fields]);
    }
  }

  @Sentence(of = "Terms", says = "behind the last one: FAIL")
  static void behindTheLast(Check check) {
    Bench b = new Bench();
    int p = b.again(1, 0, 0);
    b.begin(p);
    check.due("a procedure without instructions", b.run(9), 2);
    check.due("is a step", b.told(1), 1);

    Bench c = new Bench();
    int q = c.again(1, 0, 0);
    c.redo(q, 4);
    c.redo(q, 6);
    c.number(q, 0, 1);
    c.go(q, 1999);
    c.number(q, 0, 3);
    c.exit(q);
    c.begin(q);
    check.due("GO and TRY behind the last: back to the first redo point", c.solutions(), "3 #2");
    check.due("steps", c.told(1), 8);

    Bench d = new Bench();
    int r = d.again(1, 0, 0);
    d.redo(r, 3);
    d.go(r, 2);
    d.go(r, 5);
    d.number(r, 0, 4);
    d.exit(r);
    d.begin(r);
    check.due("just behind the last", d.solutions(), "4 #2");
  }

  @Sentence(of = "Terms", says = "0 NUMBER a, n: a becomes it. 1 MOVE a, b: a becomes what b has")
  static void numberAndMove(Check check) {
    Bench b = new Bench();
    int p = b.again(3, 0, 0);
    b.number(p, 1, MIN);
    b.move(p, 0, 1);
    b.number(p, 1, MAX);
    b.make(p, 2, 4, 1);
    b.move(p, 1, 2);
    b.move(p, 1, 1);
    b.exit(p);
    b.begin(p);
    b.run(1);
    check.due("NUMBER", b.slot(1), MIN);
    b.run(1);
    check.due("MOVE", b.slot(0), MIN);
    check.due("MOVE leaves b", b.slot(1), MIN);
    b.run(4);
    check.due("MOVE of a cell, and to itself", b.slot(1), (1L << 40) + 4);
    check.due("solution", b.solutions(), "-2147483648 #2");
  }

  @Sentence(of = "Terms", says = "2 MAKE .. a becomes the CELL with the row's VALUES as FIELDS")
  static void make(Check check) {
    Bench b = new Bench();
    int p = b.again(2, 0, 0);
    b.number(p, 0, 5);
    b.make(p, 0, 2, 0, 1, 0);
    b.make(p, 0, 3, 0, 0);
    b.make(p, 1, 4);
    b.move(p, 1, 0);
    b.number(p, 1, 6);
    b.exit(p);
    b.begin(p);
    check.due("solution", b.solutions(), "c3(c2(5,0,5),c2(5,0,5)) #2");
  }

  private static String taken(int tag, int... row) {
    Bench b = new Bench();
    int p = b.again(4, 4, 0, 1, 2, 3);
    b.make(p, 3, 7, 3, 3);
    b.make(p, 3, 6, 0, 1, 2);
    b.take(p, 3, tag, row);
    b.exit(p);
    b.begin(p, 10, 20, 30, 40);
    if (b.run(9) != 1) return "#" + b.told(0);
    return b.text(0) + " " + b.text(1) + " " + b.text(2) + " " + b.text(3);
  }

  @Sentence(of = "Terms", says = "3 TAKE .. the row's SLOTS become these, from the left")
  static void take(Check check) {
    check.due("three", taken(6, 1, 2, 0), "30 10 20 c6(10,20,30)");
    check.due("into its own slot", taken(6, 3, 3, 0), "30 20 30 20");
    check.due("into its own slot first", taken(6, 3, 0, 1), "20 30 30 10");
    check.due("thrice into one", taken(6, 0, 0, 0), "30 20 30 c6(10,20,30)");

    Bench b = new Bench();
    int p = b.again(2, 1, 0);
    b.make(p, 1, 0);
    b.take(p, 1, 0);
    b.exit(p);
    b.begin(p, 3);
    check.due("of a cell without fields", b.solutions(), "3 #2");
  }

  @Sentence(of = "Terms",
      says = "3 TAKE .. if a has a CELL with that TAG and as many FIELDS .. else FAIL")
  static void takeFails(Check check) {
    check.due("another tag", taken(5, 1, 2, 0), "#2");
    check.due("fewer", taken(6, 1, 2), "#2");
    check.due("none", taken(6), "#2");
    check.due("more", taken(6, 0, 1, 2, 3), "#2");
    check.due("another tag and none", taken(31), "#2");

    Bench b = new Bench();
    int p = b.again(2, 1, 0);
    b.take(p, 1, 0);
    b.exit(p);
    b.begin(p, 3);
    check.due("a number", b.solutions(), "#2");
    int q = b.again(2, 1, 0);
    b.make(q, 1, 0);
    b.take(q, 1, 0, 0);
    b.exit(q);
    b.begin(q, 3);
    check.due("a cell without fields, for one", b.solutions(), "#2");
  }

  /** The STATE after SAME of two terms, in two slots. */
  private static int sameOf(Term left, Term right) {
    Bench b = new Bench();
    int p = b.again(40, 0);
    left.build(b, p, 0, 2);
    if (left == right) b.move(p, 1, 0);
    else right.build(b, p, 1, 2);
    b.same(p, 0, 1);
    b.exit(p);
    b.begin(p);
    return b.run(1000);
  }

  private static final Term THREE = Term.number(3);
  private static final Term FOUR = Term.number(4);
  private static final Term BARE = Term.cell(3);

  @Sentence(of = "Terms",
      says = "4 SAME .. at the first that differ, in being a NUMBER or a CELL, in NUMBER, TAG "
          + "or how many FIELDS, FAIL")
  static void same(Check check) {
    check.due("numbers", sameOf(THREE, Term.number(3)), 1);
    check.due("other numbers", sameOf(THREE, FOUR), 2);
    check.due("MIN and MAX", sameOf(Term.number(MIN), Term.number(MAX)), 2);
    check.due("number and cell of that tag", sameOf(THREE, BARE), 2);
    check.due("cell and number", sameOf(BARE, THREE), 2);
    check.due("number 0 and cell", sameOf(Term.number(0), Term.cell(0)), 2);
    check.due("cells without fields", sameOf(BARE, Term.cell(3)), 1);
    check.due("other tags", sameOf(BARE, Term.cell(4)), 2);
    check.due("none and one field", sameOf(BARE, Term.cell(3, THREE)), 2);
    check.due("one field and none", sameOf(Term.cell(3, THREE), BARE), 2);
    check.due("three fields and four", sameOf(Term.cell(3, THREE, THREE, THREE),
        Term.cell(3, THREE, THREE, THREE, THREE)), 2);
    check.due("other tags with fields", sameOf(Term.cell(2, THREE), Term.cell(3, THREE)), 2);
    for (int fields = 1; fields <= 4; fields++) {
      for (int other = 0; other <= fields; other++) {
        Term[] left = new Term[fields];
        Term[] right = new Term[fields];
        for (int i = 0; i < fields; i++) {
          left[i] = Term.cell(1, THREE);
          right[i] = Term.cell(1, i == other ? FOUR : THREE);
        }
        check.due(fields + " fields, field " + other + " is another",
            sameOf(Term.cell(5, left), Term.cell(5, right)), other < fields ? 2 : 1);
      }
    }
  }

  @Sentence(of = "Terms", says = "4 SAME .. when a 5001st one would be looked at: WRONG")
  static void sameCountsPairs(Check check) {
    for (int pairs : new int[] {1, 2, 3, 4998, 4999, 5000}) {
      Term term = Term.ofPairs(pairs);
      check.due(pairs + " pairs", sameOf(term, term), 1);
      check.due(pairs + " pairs of two terms", sameOf(term, Term.ofPairs(pairs)), 1);
    }
    for (int pairs : new int[] {5001, 5002, 100000}) {
      Term term = Term.ofPairs(pairs);
      check.due(pairs + " pairs", sameOf(term, term), 6);
      check.due(pairs + " pairs of two terms", sameOf(term, Term.ofPairs(pairs)), 6);
    }
  }

  @Sentence(of = "Terms",
      says = "4 SAME .. PAIRS of VALUES are looked at, each ahead of its FIELDS, these from "
          + "the left")
  static void sameOrder(Check check) {
    Term many = Term.ofPairs(5000);
    Term most = Term.ofPairs(4998);
    Term less = Term.ofPairs(4997);
    check.due("the tags ahead of the fields", sameOf(Term.cell(1, many), Term.cell(2, many)), 2);
    check.due("how many ahead of the fields", sameOf(Term.cell(1, many), Term.cell(1, many, many)), 2);
    check.due("the left one first", sameOf(Term.cell(1, THREE, many), Term.cell(1, FOUR, many)), 2);
    check.due("the right one last", sameOf(Term.cell(1, many, THREE), Term.cell(1, many, FOUR)), 6);
    check.due("the 5000th differs", sameOf(Term.cell(1, most, THREE), Term.cell(1, most, FOUR)), 2);
    check.due("the 5001st differs",
        sameOf(Term.cell(1, most, THREE, THREE), Term.cell(1, most, THREE, FOUR)), 6);
    check.due("the 5000th differs, of three",
        sameOf(Term.cell(1, less, THREE, THREE), Term.cell(1, less, THREE, FOUR)), 2);
  }

  @Sentence(of = "Terms",
      says = "4 SAME .. PAIRS of VALUES are looked at",
      where = "behind a SAME that failed, and of CELLS nested deep")
  static void sameAgain(Check check) {
    Bench b = new Bench();
    int p = b.again(4, 4, 0);
    b.redo(p, 4);
    b.make(p, 0, 1, 0, 1);
    b.make(p, 2, 1, 2, 3);
    b.same(p, 0, 2);
    b.same(p, 1, 1);
    b.exit(p);
    b.begin(p, 1, 2, 3, 4);
    check.due("SAME behind one that failed", b.solutions(), "1 #2");

    Bench c = new Bench();
    int q = c.again(5, 1, 3);
    c.loop(q);
    c.same(q, 3, 3);
    c.exit(q);
    c.begin(q, 2000);
    check.due("SAME of 2000 cells, each in the next", c.run(MAX), 1);
    check.due("its HEAP", c.told(4), 4000);
  }

  private static String summed(int left, int right, int operation) {
    Bench b = new Bench();
    int p = b.again(3, 2, 2);
    b.sum(p, 2, 0, 1, operation);
    b.exit(p);
    b.begin(p, left, right);
    return b.solutions();
  }

  @Sentence(of = "Terms",
      says = "5 SUM a, b, c, an OPERATION 0 + 1 - 2 * 3 / 4 rest .. a becomes it")
  static void sum(Check check) {
    check.due("+", summed(4, -9, 0), "-5 #2");
    check.due("-", summed(4, -9, 1), "13 #2");
    check.due("*", summed(4, -9, 2), "-36 #2");
    check.due("/", summed(17, 5, 3), "3 #2");
    check.due("rest", summed(17, 5, 4), "2 #2");
    check.due("0 + 0", summed(0, 0, 0), "0 #2");
    check.due("0 / 5", summed(0, 5, 3), "0 #2");
    for (int n : new int[] {1, -1, 40, MAX, MIN + 1}) {
      check.due(n + " / 1", summed(n, 1, 3), n + " #2");
      check.due(n + " / -1", summed(n, -1, 3), -n + " #2");
      check.due(n + " / itself", summed(n, n, 3), "1 #2");
      check.due(n + " rest 1", summed(n, 1, 4), "0 #2");
      check.due(n + " rest -1", summed(n, -1, 4), "0 #2");
      check.due(n + " * 1", summed(n, 1, 2), n + " #2");
    }
    Bench b = new Bench();
    int p = b.again(1, 1, 0);
    b.sum(p, 0, 0, 0, 2);
    b.exit(p);
    b.begin(p, -6);
    check.due("all three are one slot", b.solutions(), "36 #2");
  }

  @Sentence(of = "Terms", says = "5 SUM .. as ints that wrap")
  static void sumWraps(Check check) {
    check.due("MAX + 1", summed(MAX, 1, 0), "-2147483648 #2");
    check.due("MIN + -1", summed(MIN, -1, 0), "2147483647 #2");
    check.due("MIN + MIN", summed(MIN, MIN, 0), "0 #2");
    check.due("MIN - 1", summed(MIN, 1, 1), "2147483647 #2");
    check.due("0 - MIN", summed(0, MIN, 1), "-2147483648 #2");
    check.due("65536 * 65537", summed(65536, 65537, 2), "65536 #2");
    check.due("MAX * MAX", summed(MAX, MAX, 2), "1 #2");
    check.due("MIN * -1", summed(MIN, -1, 2), "-2147483648 #2");
    check.due("MIN / -1", summed(MIN, -1, 3), "-2147483648 #2");
    check.due("MIN rest -1", summed(MIN, -1, 4), "0 #2");
  }

  @Sentence(of = "Terms", says = "5 SUM .. towards 0, with the sign of b")
  static void sumSigns(Check check) {
    int[][] pairs = {{7, 2}, {-7, 2}, {7, -2}, {-7, -2}, {1, 2}, {-1, 2}, {MIN, 3}, {MAX, MIN}};
    String[] quotients = {"3", "-3", "-3", "3", "0", "0", "-715827882", "0"};
    String[] rests = {"1", "-1", "1", "-1", "1", "-1", "-2", "2147483647"};
    for (int i = 0; i < pairs.length; i++) {
      String name = pairs[i][0] + ", " + pairs[i][1];
      check.due("/ of " + name, summed(pairs[i][0], pairs[i][1], 3), quotients[i] + " #2");
      check.due("rest of " + name, summed(pairs[i][0], pairs[i][1], 4), rests[i] + " #2");
    }
  }

  @Sentence(of = "Terms", says = "5 SUM .. by 0: FAIL")
  static void sumByZero(Check check) {
    for (int left : new int[] {7, 0, -7, MIN, MAX}) {
      check.due(left + " / 0", summed(left, 0, 3), "#2");
      check.due(left + " rest 0", summed(left, 0, 4), "#2");
      check.due(left + " * 0", summed(left, 0, 2), "0 #2");
      check.due(left + " + 0", summed(left, 0, 0), left + " #2");
      check.due(left + " - 0", summed(left, 0, 1), left + " #2");
    }
  }

  private static boolean holds(int left, int right, int relation) {
    Bench b = new Bench();
    int p = b.again(2, 2);
    b.compare(p, 0, 1, relation);
    b.exit(p);
    b.begin(p, left, right);
    return b.run(9) == 1;
  }

  @Sentence(of = "Terms",
      says = "6 COMPARE a, b, a RELATION 0 < 1 =< 2 > 3 >= 4 equal 5 not: if it doesn't hold, "
          + "FAIL")
  static void compare(Check check) {
    int[][] pairs = {{1, 2}, {2, 2}, {3, 2}, {MIN, MAX}, {MAX, MIN}, {MIN, MIN}, {-1, 0}, {MAX, -1}};
    String[] due = {
      "110001", "010110", "001101", "110001", "001101", "010110", "110001", "001101",
    };
    for (int i = 0; i < pairs.length; i++) {
      for (int relation = 0; relation < 6; relation++) {
        check.due("relation " + relation + " of " + pairs[i][0] + ", " + pairs[i][1],
            holds(pairs[i][0], pairs[i][1], relation), due[i].charAt(relation) == '1');
      }
    }
  }

  /** The STATE after an instruction that meets a cell, above a redo point. */
  private static String withCell(int cellSlot, int kind, int a, int b, int c, int d) {
    Bench bench = new Bench();
    int p = bench.again(3, 0);
    bench.redo(p, 3);
    bench.make(p, cellSlot, 0);
    bench.add(p, kind, a, b, c, d);
    bench.exit(p);
    bench.begin(p);
    return bench.run(3) + " " + bench.run(9) + " " + bench.told(1) + " " + bench.told(7);
  }

  @Sentence(of = "Terms", says = "5 and 6 want NUMBERS: else WRONG")
  static void wantNumbers(Check check) {
    for (int operation = 0; operation < 5; operation++) {
      check.due("cell left of " + operation, withCell(0, 5, 2, 0, 1, operation), "6 6 3 1");
      check.due("cell right of " + operation, withCell(1, 5, 2, 0, 1, operation), "6 6 3 1");
      check.due("cell on both sides of " + operation, withCell(0, 5, 2, 0, 0, operation), "6 6 3 1");
    }
    for (int relation = 0; relation < 6; relation++) {
      check.due("cell left of " + relation, withCell(0, 6, 0, 1, relation, 0), "6 6 3 1");
      check.due("cell right of " + relation, withCell(1, 6, 0, 1, relation, 0), "6 6 3 1");
      check.due("cell on both sides of " + relation, withCell(0, 6, 0, 0, relation, 0), "6 6 3 1");
    }
    Bench b = new Bench();
    int p = b.again(2, 1, 0);
    b.make(p, 1, 3, 0);
    b.sum(p, 1, 0, 0, 0);
    b.move(p, 0, 1);
    b.exit(p);
    b.begin(p, 4);
    check.due("a cell in the slot that becomes it is no matter", b.solutions(), "8 #2");
  }

  @Sentence(of = "Terms",
      says = "7 GO to: that is next. 8 UNLESS .. if a has no CELL with that TAG, to is next")
  static void goAndUnless(Check check) {
    Bench b = new Bench();
    int p = b.again(3, 0, 0);
    b.go(p, 3);
    b.fail(p);
    b.fail(p);
    b.make(p, 1, 4, 0);
    b.unless(p, 1, 4, 1); // has it: the next
    b.unless(p, 1, 5, 7); // another tag: 7
    b.fail(p);
    b.unless(p, 2, 0, 9); // a number: 9
    b.fail(p);
    b.make(p, 1, 31);
    b.unless(p, 1, 31, 1); // a cell without fields has it too
    b.number(p, 0, 6);
    b.exit(p);
    b.begin(p);
    check.due("GO and UNLESS", b.solutions(), "6 #2");
  }

  @Sentence(of = "Terms", says = "9 TRY to: a REDO point comes, with this FRAME and to")
  static void redoPoint(Check check) {
    Bench b = new Bench();
    int p = b.again(1, 0, 0);
    b.redo(p, 6);
    b.redo(p, 4);
    b.number(p, 0, 1);
    b.exit(p);
    b.number(p, 0, 2);
    b.exit(p);
    b.redo(p, 1999);
    b.exit(p);
    b.begin(p);
    check.due("the latest first", b.solutions(), "1 2 0 #2");
    check.due("told", b.told(), "2 9 3 9 0 0 3 0 1");
  }

  @Sentence(of = "Terms",
      says = "10 CALL p, a row .. a FRAME comes, whose first SLOTS get the VALUES of the "
          + "row's first ones; it is at work, its INSTRUCTION 0 next")
  static void call(Check check) {
    Bench b = new Bench();
    int p = b.again(4, 0, 0, 1);
    int q = b.again(4, 2, 3, 0, 2);
    b.number(p, 2, 7);
    b.number(p, 3, 8);
    b.call(p, q, 2, 3, 0, 1, 1);
    b.exit(p);
    b.sum(q, 3, 0, 1, 2);
    b.number(q, 0, -1);
    b.number(q, 2, 5);
    b.exit(q);
    b.begin(p);
    b.run(3);
    check.due("a frame comes", b.told(), "0 3 12 12 0 0 0 0 2");
    check.due("first argument", b.slot(0), 7);
    check.due("second argument", b.slot(1), 8);
    check.due("other slot", b.slot(2), 0);
    b.run(1);
    check.due("its instruction 0 was next", b.slot(3), 56);

    Bench c = new Bench();
    int ten = c.again(10, 10);
    int caller = c.again(10, 10);
    c.call(caller, ten, 9, 8, 7, 6, 5, 4, 3, 2, 1, 0);
    c.begin(caller, 0, 1, 2, 3, 4, 5, 6, 7, 8, 9);
    c.run(1);
    for (int k = 0; k < 10; k++) check.due("argument " + k, c.slot(k), 9 - k);
  }

  @Sentence(of = "Terms", says = "11 MARK a: a becomes the NUMBER of REDO points that lie there")
  static void mark(Check check) {
    Bench b = new Bench();
    int q = b.again(1, 0, 0);
    b.mark(q, 0);
    b.exit(q);
    int p = b.again(4, 0);
    b.mark(p, 0);
    b.redo(p, 9);
    b.redo(p, 9);
    b.drop(p, 2);
    b.mark(p, 1);
    b.call(p, q, 3);
    b.begin(p);
    b.run(8);
    check.due("at first", b.slot(0), 0);
    check.due("dead ones lie there", b.slot(1), 2);
    check.due("those of all frames", b.slot(3), 2);
  }

  private static String cutTo(int n) {
    Bench b = new Bench();
    int p = b.again(1, 1);
    b.redo(p, 5);
    b.redo(p, 5);
    b.redo(p, 5);
    b.cut(p, 0);
    b.fail(p);
    b.begin(p, n);
    b.run(4);
    return b.told();
  }

  @Sentence(of = "Terms", says = "CUT to n: the REDO points from number n on go")
  static void cut(Check check) {
    check.due("CUT to 2", cutTo(2), "0 4 9 12 0 0 0 2 1");
    check.due("CUT to 1", cutTo(1), "0 4 6 12 0 0 0 1 1");
    check.due("CUT to 0", cutTo(0), "0 4 3 12 0 0 0 0 1");

    Bench b = new Bench();
    int p = b.again(3, 1, 0);
    b.redo(p, 8);
    b.number(p, 0, 2);
    b.redo(p, 8);
    b.number(p, 0, 3);
    b.number(p, 1, 1);
    b.cut(p, 1);
    b.number(p, 0, 4);
    b.exit(p);
    b.exit(p);
    b.begin(p, 1);
    check.due("one that went is not gone back to", b.solutions(), "4 1 #2");
  }

  @Sentence(of = "Terms", says = "n below 0 counts as 0; where there are not more than n none go")
  static void cutBeyond(Check check) {
    check.due("CUT to -1", cutTo(-1), "0 4 3 12 0 0 0 0 1");
    check.due("CUT to MIN", cutTo(MIN), "0 4 3 12 0 0 0 0 1");
    check.due("CUT to 3", cutTo(3), "0 4 12 12 0 0 0 3 1");
    check.due("CUT to 4", cutTo(4), "0 4 12 12 0 0 0 3 1");
    check.due("CUT to MAX", cutTo(MAX), "0 4 12 12 0 0 0 3 1");

    Bench b = new Bench();
    int p = b.again(1, 1);
    b.cut(p, 0);
    for (int n : new int[] {0, 1, -1, MAX, MIN}) {
      b.begin(p, n);
      b.run(1);
      check.due("CUT to " + n + " where there are none", b.told(), "0 1 3 3 0 0 0 0 1");
    }
  }

  @Sentence(of = "Terms",
      says = "then all that lies above both the FRAME at work and the last REDO point that is "
          + "left goes")
  static void cutTakesFrames(Check check) {
    // a frame that has exited stays below a redo point, and goes with it
    Bench b = new Bench();
    int g = b.again(1, 0);
    b.redo(g, 9);
    b.exit(g);
    int p = b.again(2, 0);
    b.call(p, g);
    b.cut(p, 0);
    b.exit(p);
    b.begin(p);
    b.run(3);
    check.due("ahead of the cut", b.told(), "0 3 10 10 0 0 0 1 2");
    b.run(1);
    check.due("behind it", b.told(), "0 4 4 10 0 0 0 0 1");

    // one redo point of two is left: what lies below it stays
    Bench c = new Bench();
    int h = c.again(1, 0);
    c.redo(h, 9);
    c.redo(h, 9);
    c.exit(h);
    int q = c.again(2, 0);
    c.call(q, h);
    c.number(q, 1, 1);
    c.cut(q, 1);
    c.begin(q);
    c.run(6);
    check.due("the frame below the one that is left stays", c.told(), "0 6 10 13 0 0 0 1 2");

    // the one that is left is below the exited frame, which goes
    Bench d = new Bench();
    int k = d.again(1, 0);
    d.redo(k, 9);
    d.exit(k);
    int r = d.again(2, 0);
    d.redo(r, 9);
    d.mark(r, 0);
    d.call(r, k);
    d.cut(r, 0);
    d.begin(r);
    d.run(5);
    check.due("an exited frame above a redo point", d.told(), "0 5 13 13 0 0 0 2 2");
    d.run(1);
    check.due("it goes, the redo point stays", d.told(), "0 6 7 13 0 0 0 1 1");
  }

  @Sentence(of = "Terms",
      says = "then all that lies above both the FRAME at work and the last REDO point that is "
          + "left goes",
      where = "what lies below one of them stays")
  static void cutLeavesFramesBelow(Check check) {
    Bench b = new Bench();
    int g = b.again(1, 0);
    b.redo(g, 9);
    b.exit(g);
    int h = b.again(2, 0);
    b.cut(h, 0);
    b.exit(h);
    int p = b.again(3, 0);
    b.call(p, g);
    b.call(p, h);
    b.number(p, 0, 5);
    b.cut(p, 0);
    b.exit(p);
    b.begin(p);
    b.run(4);
    check.due("ahead of the cut", b.told(), "0 4 15 15 0 0 0 1 3");
    b.run(1);
    check.due("the redo point goes from between", b.told(), "0 5 12 15 0 0 0 0 3");
    b.run(1);
    check.due("h goes, g stays", b.told(), "0 6 8 15 0 0 0 0 2");
    b.run(2);
    check.due("g goes when p cuts, though no redo point does", b.told(), "0 8 5 15 0 0 0 0 1");

    // the frame at work lies above the one that is left, and has an exited one above it
    Bench c = new Bench();
    int k = c.again(4, 0);
    c.redo(k, 9);
    c.exit(k);
    int r = c.again(2, 1);
    c.call(r, k);
    c.cut(r, 0);
    c.exit(r);
    int q = c.again(1, 1);
    c.redo(q, 9);
    c.call(q, r, 0);
    c.begin(q, 1);
    c.run(4);
    check.due("ahead of the cut", c.told(), "0 4 19 19 0 0 0 2 3");
    c.run(2);
    check.due("k goes, r stays", c.told(), "0 6 10 19 0 0 0 1 2");
    c.run(1);
    check.due("r goes at its EXIT", c.told(), "0 7 6 19 0 0 0 1 1");
  }

  @Sentence(of = "Terms",
      says = "13 DROP a: the REDO point with the number n that a has .. is DEAD")
  static void drop(Check check) {
    check.due("DROP 0", dropped(check, 0), "1 4 3 #2");
    check.due("DROP 1", dropped(check, 1), "1 4 2 #2");
    check.due("DROP 2", dropped(check, 2), "1 3 2 #2");

    // a redo point that comes in a dead one's place is not dead
    Bench b = new Bench();
    int p = b.again(2, 0, 1);
    b.redo(p, 7);
    b.drop(p, 0);
    b.cut(p, 0);
    b.redo(p, 6);
    b.number(p, 1, 1);
    b.exit(p);
    b.exit(p);
    b.begin(p);
    check.due("a new one in its place", b.solutions(), "1 0 #2");
  }

  private static String dropped(Check check, int n) {
    Bench b = new Bench();
    int p = b.again(2, 1, 1);
    b.redo(p, 6);
    b.redo(p, 8);
    b.redo(p, 10);
    b.drop(p, 0);
    for (int i = 1; i <= 4; i++) {
      b.number(p, 1, i);
      b.exit(p);
    }
    b.begin(p, n);
    b.run(4);
    check.due("they lie there still", b.told(), "0 4 13 13 0 0 0 3 1");
    return b.solutions();
  }

  @Sentence(of = "Terms", says = "13 DROP .. if it lies there")
  static void dropOfNone(Check check) {
    for (int n : new int[] {3, 4, -1, MIN, MAX}) {
      check.due("DROP " + n, dropped(check, n), "1 4 3 2 #2");
    }
    Bench b = new Bench();
    int p = b.again(1, 1, 0);
    b.drop(p, 0);
    b.redo(p, 4);
    b.number(p, 0, 8);
    b.exit(p);
    b.exit(p);
    b.begin(p, 0);
    check.due("DROP where there are none: what comes later is not dead", b.solutions(), "8 0 #2");
  }

  @Sentence(of = "Terms", says = "12, 13: WRONG if a has a CELL")
  static void cutAndDropWantNumbers(Check check) {
    check.due("CUT to a cell", withCell(0, 12, 0, 0, 0, 0), "6 6 3 1");
    check.due("DROP of a cell", withCell(0, 13, 0, 0, 0, 0), "6 6 3 1");
    check.due("MARK of a slot with a cell is fine", withCell(0, 11, 0, 0, 0, 0), "0 1 4 1");
  }

  /** p calls two(), which gives 1 and 2, as AGAIN or ONCE. */
  private static Bench callsTwo(boolean again) {
    Bench b = new Bench();
    int two = again ? b.again(1, 0, 0) : b.once(1, 0, 0);
    b.redo(two, 3);
    b.number(two, 0, 1);
    b.exit(two);
    b.number(two, 0, 2);
    b.exit(two);
    int p = b.again(3, 0, 2);
    b.number(p, 1, 10);
    b.call(p, two, 0);
    b.sum(p, 2, 0, 1, 0);
    b.number(p, 1, 100);
    b.exit(p);
    b.begin(p);
    return b;
  }

  @Sentence(of = "Terms",
      says = "EXIT of a FRAME: if its PROCEDURE is ONCE: CUT to how many REDO points lay "
          + "there at its CALL")
  static void exitOnce(Check check) {
    Bench b = callsTwo(false);
    b.run(5);
    check.due("redo point and frame go", b.told(), "0 5 5 11 0 0 0 0 1");
    b.begin(1);
    check.due("one solution", b.solutions(), "11 #2");

    // what is earlier stays
    Bench c = new Bench();
    int once = c.once(1, 0, 0);
    c.redo(once, 0);
    c.redo(once, 0);
    c.number(once, 0, 4);
    c.exit(once);
    int p = c.again(1, 0, 0);
    c.redo(p, 3);
    c.call(p, once, 0);
    c.exit(p);
    c.number(p, 0, 9);
    c.exit(p);
    c.begin(p);
    c.run(6);
    check.due("the earlier redo point is left", c.told(), "0 6 6 15 0 0 0 1 1");
    check.due("solutions", c.solutions(), "4 9 #2");

    // cut below that number and tried anew, the count alone decides: two of three stay
    Bench d = new Bench();
    int f = d.once(1, 0);
    d.cut(f, 0);
    for (int i = 0; i < 3; i++) d.redo(f, 5);
    d.exit(f);
    int q = d.again(1, 0);
    d.redo(q, 3);
    d.redo(q, 3);
    d.call(q, f);
    d.exit(q);
    d.begin(q);
    d.run(8);
    check.due("as many as at the call are left", d.told(), "0 8 12 15 0 0 0 2 2");
  }

  @Sentence(of = "Terms",
      says = "EXIT of a FRAME: if its PROCEDURE is ONCE",
      where = "AGAIN: it may succeed again")
  static void exitAgain(Check check) {
    Bench b = callsTwo(true);
    b.run(5);
    check.due("its frame stays below its redo point", b.told(), "0 5 11 11 0 0 0 1 2");
    b.begin(1);
    check.due("both solutions", b.solutions(), "11 12 #2");
    check.due("the frame went at its last exit", b.told(), "2 13 5 11 0 0 2 0 1");
  }

  @Sentence(of = "Terms",
      says = "Then its OUTS' VALUES go to the row's last SLOTS of its CALL, from the left, in "
          + "the FRAME of that")
  static void exitGivesOuts(Check check) {
    Bench b = new Bench();
    int q = b.again(4, 2, 3, 0, 2);
    b.sum(q, 3, 0, 1, 2);
    b.number(q, 0, -1);
    b.number(q, 2, 5);
    b.exit(q);
    int p = b.again(4, 0, 0, 1);
    b.number(p, 2, 7);
    b.number(p, 3, 8);
    b.call(p, q, 2, 3, 0, 1, 1);
    b.exit(p);
    b.begin(p);
    b.run(7);
    check.due("first out", b.slot(0), 56);
    check.due("from the left: the last stays", b.slot(1), 5);
    check.due("an argument is not changed", b.slot(2), 7);
    check.due("solution", b.solutions(), "56 #2");

    Bench c = new Bench();
    int eight = c.again(8, 2, 0, 1, 2, 3, 4, 5, 6, 7);
    for (int k = 2; k < 8; k++) c.number(eight, k, 10 * k);
    c.exit(eight);
    int r = c.again(10, 0);
    c.number(r, 8, 1);
    c.number(r, 9, 2);
    c.call(r, eight, 9, 8, 7, 6, 5, 4, 3, 2, 1, 0);
    c.begin(r);
    c.run(10);
    int[] due = {70, 60, 50, 40, 30, 20, 1, 2, 1, 2};
    for (int k = 0; k < 10; k++) check.due("slot " + k, c.slot(k), due[k]);
  }

  @Sentence(of = "Terms", says = "it goes from the STACK if nothing lies above it")
  static void exitLeavesFrame(Check check) {
    Bench b = callsTwo(true);
    b.run(3);
    check.due("a redo point above it", b.told(), "0 3 11 11 0 0 0 1 2");
    b.run(2);
    check.due("it stays", b.told(), "0 5 11 11 0 0 0 1 2");

    // k, which has exited, lies above m though its redo point was cut: m stays
    Bench c = new Bench();
    int k = c.again(1, 0);
    c.redo(k, 9);
    c.exit(k);
    int l = c.again(1, 0);
    c.cut(l, 0);
    c.exit(l);
    int m = c.again(1, 0);
    c.call(m, k);
    c.call(m, l);
    c.exit(m);
    int q = c.again(1, 0);
    c.call(q, m);
    c.exit(q);
    c.begin(q);
    c.run(8);
    check.due("m stays below k", c.told(), "0 8 9 15 0 0 0 0 3");
    check.due("the solution", c.run(1), 1);
    check.due("told there", c.told(), "1 9 9 15 0 0 1 0 3");

    // a redo point below the frame is no matter
    Bench d = new Bench();
    int e = d.again(5, 0);
    d.exit(e);
    int r = d.again(3, 0);
    d.redo(r, 9);
    d.call(r, e);
    d.begin(r);
    d.run(3);
    check.due("it goes from above a redo point", d.told(), "0 3 8 15 0 0 0 1 1");
  }

  @Sentence(of = "Terms", says = "that FRAME is at work, the INSTRUCTION behind its CALL next")
  static void exitGoesOnBehindCall(Check check) {
    Bench b = new Bench();
    int q = b.again(1, 1, 0);
    b.number(q, 0, 3);
    b.go(q, 4);
    b.fail(q);
    b.fail(q);
    b.exit(q);
    int p = b.again(3, 0, 2);
    b.call(p, q, 0, 1);
    b.sum(p, 2, 2, 1, 0);
    b.call(p, q, 0, 1);
    b.sum(p, 2, 2, 1, 0);
    b.exit(p);
    b.begin(p);
    check.due("both calls are gone on behind", b.solutions(), "6 #2");

    Bench c = new Bench();
    int r = c.again(1, 0);
    c.exit(r);
    int last = c.again(1, 0);
    c.call(last, r);
    c.begin(last);
    check.due("behind a CALL that is the last: FAIL", c.run(9), 2);
    check.due("steps", c.told(1), 3);
  }

  @Sentence(of = "Terms", says = "The first FRAME, instead: it is a SOLUTION, with its OUTS")
  static void exitOfTheFirst(Check check) {
    Bench b = new Bench();
    int p = b.once(1, 0, 0);
    b.redo(p, 0);
    b.redo(p, 0);
    b.exit(p);
    b.begin(p);
    b.run(3);
    check.due("if it is ONCE, it cuts too, and it stays", b.told(), "1 3 3 9 0 0 1 0 1");
    check.due("no more", b.run(9), 2);

    // the same procedure, called, is no solution
    Bench c = new Bench();
    int q = c.again(2, 1, 1);
    c.unless(q, 0, 1, 4);
    c.number(q, 1, 6);
    c.exit(q);
    c.fail(q);
    c.make(q, 0, 1);
    c.call(q, q, 0, 1);
    c.exit(q);
    c.begin(q, 0);
    c.run(6);
    check.due("the called one's EXIT", c.told(), "0 6 4 8 0 0 0 0 1");
    check.due("the first one's", c.solutions(), "6 #2");
    check.due("solutions", c.told(6), 1);
  }

  @Sentence(of = "Terms", says = "FAIL: the latest REDO point and all above it go")
  static void failTakesAllAbove(Check check) {
    Bench b = new Bench();
    int g = b.again(4, 0);
    b.fail(g);
    int h = b.again(2, 0);
    b.call(h, g);
    int p = b.again(1, 0);
    b.redo(p, 3);
    b.redo(p, 4);
    b.call(p, h);
    b.exit(p);
    b.exit(p);
    b.begin(p);
    b.run(4);
    check.due("ahead of FAIL", b.told(), "0 4 19 19 0 0 0 2 3");
    b.run(1);
    check.due("behind it", b.told(), "0 5 6 19 0 0 0 1 1");
  }

  @Sentence(of = "Terms", says = "If it was DEAD, FAIL again")
  static void failThroughDead(Check check) {
    Bench b = new Bench();
    int p = b.again(3, 1, 0);
    b.redo(p, 9);
    b.number(p, 0, 2);
    b.redo(p, 9);
    b.number(p, 0, 3);
    b.number(p, 2, 1);
    b.drop(p, 2);
    b.number(p, 0, 4);
    b.redo(p, 9);
    b.exit(p);
    b.exit(p);
    b.begin(p, 1);
    check.due("the dead one is passed over", b.solutions(), "4 4 1 #2");

    // all of many are dead but the first
    Bench c = new Bench();
    int q = c.again(2, 1, 0);
    c.redo(q, 22);
    for (int i = 1; i <= 7; i++) {
      c.redo(q, 0);
      c.number(q, 1, i);
      c.drop(q, 1);
    }
    c.fail(q);
    c.exit(q);
    c.begin(q, 5);
    c.run(22);
    check.due("ahead of FAIL", c.told(), "0 22 28 28 0 0 0 8 1");
    c.run(1);
    check.due("one STEP through all", c.told(), "0 23 4 28 0 0 0 0 1");
    check.due("gone to the live one", c.slot(1), 0);
  }

  @Sentence(of = "Terms", says = "when there is none, NO MORE")
  static void failWithNone(Check check) {
    // where there is no redo point nothing goes
    Bench b = new Bench();
    int g = b.again(2, 0);
    b.make(g, 0, 0, 1);
    b.fail(g);
    int p = b.again(3, 0);
    b.call(p, g);
    b.begin(p);
    check.due("no more", b.run(9), 2);
    check.due("frames and HEAP stay", b.told(), "2 3 9 9 2 2 0 0 2");

    // dead ones and what is above them go
    Bench c = new Bench();
    int h = c.again(2, 0);
    c.make(h, 0, 0, 1);
    c.fail(h);
    int q = c.again(3, 0);
    c.redo(q, 3);
    c.drop(q, 0);
    c.call(q, h);
    c.begin(q);
    check.due("no more behind a dead one", c.run(9), 2);
    check.due("what lay above it goes", c.told(), "2 5 5 12 2 2 0 0 1");
  }

  @Sentence(of = "Terms",
      says = "Else all SLOTS of all FRAMES, and the HEAP, are as they were when it came",
      where = "SLOTS")
  static void failRestoresSlots(Check check) {
    Bench b = new Bench();
    int g = b.again(2, 1, 1);
    b.redo(g, 3);
    b.number(g, 0, 50);
    b.go(g, 4);
    b.sum(g, 0, 0, 0, 0);
    b.move(g, 1, 0);
    b.exit(g);
    int p = b.again(3, 1, 2);
    b.call(p, g, 0, 1);
    b.sum(p, 2, 0, 1, 0);
    b.number(p, 0, 1000);
    b.number(p, 1, 1000);
    b.exit(p);
    b.begin(p, 4);
    check.due("50 + 4, then 8 + 4", b.solutions(), "54 12 #2");

    // each kind of instruction that changes a slot, then back
    Bench c = new Bench();
    int one = c.again(1, 0, 0);
    c.number(one, 0, 9);
    c.exit(one);
    int q = c.again(8, 8);
    c.redo(q, 9);
    c.number(q, 0, 90);
    c.move(q, 1, 0);
    c.make(q, 2, 0, 0, 1);
    c.take(q, 2, 0, 3, 4);
    c.sum(q, 5, 0, 1, 0);
    c.mark(q, 6);
    c.call(q, one, 7);
    c.fail(q);
    c.go(q, 9);
    c.begin(q, 10, 11, 12, 13, 14, 15, 16, 17);
    c.run(10);
    long[] changed = {90, 90, (1L << 40), 90, 90, 180, 1, 9};
    for (int k = 0; k < 8; k++) check.due("ahead of FAIL, slot " + k, c.slot(k), changed[k]);
    check.due("ahead of FAIL, HEAP", c.told(4), 3);
    c.run(1);
    for (int k = 0; k < 8; k++) check.due("slot " + k, c.slot(k), 10 + k);
    check.due("HEAP", c.told(4), 0);
  }

  @Sentence(of = "Terms",
      says = "Else all SLOTS of all FRAMES, and the HEAP, are as they were when it came",
      where = "SLOTS, on a STACK that is all but full")
  static void failRestoresHighUp(Check check) {
    Bench b = new Bench();
    int p = b.again(40, 1);
    b.redo(p, 5);
    b.compare(p, 0, 1, 2);
    b.number(p, 2, 1);
    b.sum(p, 0, 0, 2, 1);
    b.call(p, p, 0);
    b.number(p, 39, 8); // instruction 5, in the last frame
    b.redo(p, 9);
    b.number(p, 39, 77);
    b.fail(p);
    b.redo(p, 5);
    b.fail(p);
    b.begin(p, 439);
    b.run(439 * 5 + 5);
    check.due("told", b.told(), "0 2200 19800 19800 0 0 0 440 440");
    check.due("changed", b.slot(39), 77);
    b.run(1);
    check.due("as it was", b.slot(39), 8);
    check.due("told", b.told(), "0 2201 19797 19800 0 0 0 439 440");
    b.run(2);
    check.due("gone back once more", b.slot(39), 8);
  }

  /** What changed above redo points that were cut is changed back by the one below them, too. */
  @Sentence(of = "Terms",
      says = "Else all SLOTS of all FRAMES, and the HEAP, are as they were when it came",
      where = "SLOTS, though later REDO points were cut")
  static void failRestoresAcrossCuts(Check check) {
    Bench b = new Bench();
    int p = b.again(4, 1, 0);
    b.number(p, 1, 1);
    b.redo(p, 10);
    for (int i = 0; i < 3; i++) b.redo(p, 11);
    b.number(p, 0, 20);
    b.cut(p, 1);
    b.number(p, 0, 30);
    b.number(p, 3, 30);
    b.fail(p);
    b.exit(p);
    b.fail(p);
    b.begin(p, 7);
    b.run(10);
    check.due("back at the first", b.told(), "0 10 6 18 0 0 0 0 1");
    check.due("slot 0", b.slot(0), 7);
    check.due("slot 3", b.slot(3), 0);
  }

  @Sentence(of = "Terms",
      says = "Else all SLOTS of all FRAMES, and the HEAP, are as they were when it came",
      where = "the HEAP")
  static void failRestoresHeap(Check check) {
    Bench b = new Bench();
    int p = b.again(2, 1, 0);
    b.make(p, 0, 1, 0);
    b.redo(p, 5);
    b.make(p, 0, 2, 0, 0, 0);
    b.make(p, 1, 3, 0, 0, 0, 0);
    b.exit(p);
    b.make(p, 0, 4, 0, 0);
    b.exit(p);
    b.begin(p, 6);
    b.run(9);
    check.due("HEAP", b.told(4), 11);
    check.due("the first", b.text(0), "c2(c1(6),c1(6),c1(6))");
    b.run(1);
    check.due("HEAP as it was, and 3 more", b.told(4), 5);
    check.due("the greatest HEAP", b.told(5), 11);
    b.run(1);
    check.due("the second", b.text(0), "c4(c1(6),c1(6))");
  }

  @Sentence(of = "Terms", says = "its FRAME is at work, its INSTRUCTION next")
  static void failGoesToItsFrame(Check check) {
    Bench b = new Bench();
    int deep = b.again(5, 0);
    b.fail(deep);
    int q = b.again(2, 1, 1);
    b.redo(q, 3);
    b.number(q, 1, 5);
    b.exit(q);
    b.number(q, 1, 6);
    b.exit(q);
    int p = b.again(3, 0, 1);
    b.number(p, 0, 4);
    b.call(p, q, 0, 1);
    b.compare(p, 1, 0, 4); // 5 equals 4: no
    b.exit(p);
    b.begin(p);
    b.run(6);
    check.due("the exited frame is at work again", b.told(), "0 6 9 12 0 0 0 0 2");
    check.due("it has no slot 2", b.slot(2), RedoMachine.NONE);
    b.run(1);
    check.due("its instruction was next", b.slot(1), 6);
    check.due("its argument", b.slot(0), 4);

    // redo points of several frames, one behind the other in the same place
    Bench c = new Bench();
    int g = c.again(3, 0);
    c.redo(g, 2);
    c.fail(g);
    c.exit(g);
    int r = c.again(2, 0, 0);
    c.call(r, g);
    c.redo(r, 4);
    c.call(r, g);
    c.fail(r);
    c.number(r, 0, 8);
    c.exit(r);
    c.begin(r);
    c.run(3);
    check.due("back in g", c.told(), "0 3 9 12 0 0 0 0 2");
    c.run(2);
    check.due("a redo point of r", c.told(), "0 5 7 12 0 0 0 1 1");
    check.due("back in g, then in r", c.solutions(), "8 #2");
    check.due("told at the end", c.told(), "2 12 4 15 0 0 1 0 1");
  }

  @Sentence(of = "Terms",
      says = "What would make the SIZE or the HEAP greater than its limit is not done: STACK "
          + "FULL, HEAP FULL (the STEP counts)",
      where = "STACK FULL")
  static void stackFull(Check check) {
    Bench b = new Bench();
    int p = b.again(1, 0);
    b.call(p, p);
    b.beginWithin(p, 11, 0);
    check.due("CALL", b.run(9), 4);
    check.due("it is not done, its step counts", b.told(), "4 3 9 9 0 0 0 0 3");
    b.beginWithin(p, 9, 0);
    b.run(2);
    check.due("CALL up to the limit is not beyond it", b.told(), "0 2 9 9 0 0 0 0 3");
    check.due("CALL beyond it", b.run(1), 4);
    b.begin(p);
    check.due("CALL beyond 20,000", b.run(MAX), 4);
    check.due("6666 frames of 3", b.told(), "4 6666 19998 19998 0 0 0 0 6666");

    int q = b.again(2, 0);
    b.redo(q, 0);
    b.go(q, 0);
    b.beginWithin(q, 7, 0);
    check.due("TRY up to the limit", b.run(1), 0);
    check.due("TRY beyond it", b.run(9), 4);
    check.due("it is not done, its step counts", b.told(), "4 3 7 7 0 0 0 1 1");
    b.beginWithin(q, 6, 0);
    check.due("TRY beyond it by one", b.run(1), 4);
    check.due("told", b.told(), "4 1 4 4 0 0 0 0 1");
    b.beginWithin(q, 4, 0);
    check.due("TRY with no room at all", b.run(1), 4);

    int r = b.again(18, 0);
    b.redo(r, 0);
    b.go(r, 0);
    b.begin(r);
    check.due("TRY to 20,000", b.run(13319), 0);
    check.due("told", b.told(), "0 13319 20000 20000 0 0 0 6660 1");
    check.due("TRY beyond 20,000", b.run(MAX), 4);
  }

  @Sentence(of = "Terms",
      says = "What would make the SIZE or the HEAP greater than its limit is not done: STACK "
          + "FULL, HEAP FULL (the STEP counts)",
      where = "HEAP FULL")
  static void heapFull(Check check) {
    for (int fields = 1; fields <= 4; fields++) {
      Bench b = new Bench();
      int p = b.again(1, 0);
      b.make(p, 0, 0, new int[fields]);
      b.beginWithin(p, 100, fields);
      check.due(fields + " fields in " + fields, b.run(1), 5);
      check.due("it is not done, its step counts", b.told(), "5 1 3 3 0 0 0 0 1");
      b.beginWithin(p, 100, fields + 1);
      check.due(fields + " fields in one more", b.run(1), 0);
      b.beginWithin(p, 100, 0);
      check.due(fields + " fields in 0", b.run(1), 5);
    }
    Bench b = new Bench();
    int p = b.again(1, 0);
    b.make(p, 0, 0);
    b.make(p, 0, 0, 0, 0);
    b.make(p, 0, 0, 0);
    b.make(p, 0, 7);
    b.beginWithin(p, 100, 0);
    check.due("no fields, no HEAP", b.run(1), 0);
    b.beginWithin(p, 100, 5);
    check.due("two and one fit 5, and then none", b.run(4), 0);
    check.due("told", b.told(), "0 4 3 3 5 5 0 0 1");
    b.beginWithin(p, 100, 4);
    check.due("but not 4", b.run(3), 5);
    check.due("told", b.told(), "5 3 3 3 3 3 0 0 1");

    int q = b.again(1, 0);
    b.make(q, 0, 0, 0);
    b.make(q, 0, 0, 0);
    b.go(q, 0);
    b.begin(q);
    check.due("20,000", b.run(14999), 0);
    check.due("HEAP of 20,000", b.told(4), 20000);
    check.due("beyond 20,000", b.run(MAX), 5);
    check.due("the greatest HEAP", b.told(5), 20000);
  }
}
