/** What each instruction does (promise 6, by the document's terms). */
public final class InstructionsTest {
  private static final int MIN = Integer.MIN_VALUE;
  private static final int MAX = Integer.MAX_VALUE;
  private static final Check check = new Check("instructions");

  public static void main(String[] args) {
    numberAndMove();
    make();
    take();
    same();
    sameCountsPairs();
    sameIsDeep();
    sum();
    compare();
    goAndUnless();
    redo();
    call();
    exitAgain();
    exitOnce();
    onceKeepsEarlier();
    mark();
    cut();
    cutLeavesFrames();
    cutBelowKeepsFrames();
    drop();
    failRestores();
    failRestoresHeap();
    noMoreLeavesAll();
    stackFull();
    heapFull();
    check.end();
  }

  private static void numberAndMove() {
    Bench b = new Bench();
    int p = b.again(3, 0, 0);
    b.number(p, 1, MIN);
    b.move(p, 0, 1);
    b.number(p, 1, MAX);
    b.exit(p);
    b.begin(p);
    b.machine.run(1);
    check.due("NUMBER", b.machine.slot(1), MIN);
    b.machine.run(1);
    check.due("MOVE", b.machine.slot(0), MIN);
    check.due("MOVE leaves b", b.machine.slot(1), MIN);
    check.due("solution", b.solutions(), "-2147483648 #2");
  }

  private static void make() {
    Bench b = new Bench();
    int p = b.again(2, 0, 0);
    b.number(p, 0, 5);
    b.make(p, 0, 2, 0, 1, 0);
    b.make(p, 0, 3, 0, 0);
    b.make(p, 1, 4);
    b.move(p, 1, 0);
    b.number(p, 1, 6);
    b.exit(p);
    b.begin(p);
    b.machine.run(2);
    check.due("HEAP of 3 fields", b.machine.told(4), 4);
    b.machine.run(1);
    check.due("HEAP of 2 fields more", b.machine.told(4), 7);
    b.machine.run(1);
    check.due("HEAP of no fields more", b.machine.told(4), 7);
    check.due("solution", b.solutions(), "c3(c2(5,0,5),c2(5,0,5)) #2");
  }

  private static String taken(int tag, int... row) {
    Bench b = new Bench();
    int p = b.again(4, 4, 0, 1, 2, 3);
    b.make(p, 3, 6, 0, 1, 2);
    b.take(p, 3, tag, row);
    b.exit(p);
    b.begin(p, 10, 20, 30, 40);
    if (b.machine.run(9) != 1) return "#" + b.machine.told(0);
    return b.text(0) + " " + b.text(1) + " " + b.text(2) + " " + b.text(3);
  }

  private static void take() {
    check.due("TAKE", taken(6, 1, 2, 0), "30 10 20 c6(10,20,30)");
    check.due("TAKE into its own slot", taken(6, 3, 3, 0), "30 20 30 20");
    check.due("TAKE from the left", taken(6, 0, 0, 0), "30 20 30 c6(10,20,30)");
    check.due("TAKE of another tag", taken(5, 1, 2, 0), "#2");
    check.due("TAKE of fewer", taken(6, 1, 2), "#2");
    check.due("TAKE of none", taken(6), "#2");
    check.due("TAKE of more", taken(6, 0, 1, 2, 3), "#2");

    Bench b = new Bench();
    int p = b.again(2, 1, 0);
    b.take(p, 1, 0);
    b.exit(p);
    b.begin(p, 3);
    check.due("TAKE of a number", b.solutions(), "#2");
    int q = b.again(2, 1, 0);
    b.make(q, 1, 0);
    b.take(q, 1, 0);
    b.exit(q);
    b.begin(q, 3);
    check.due("TAKE of a cell without fields", b.solutions(), "3 #2");
  }

  /** The STATE after SAME of two slots, which the texts build: n.. a number, c.. cells. */
  private static int sameOf(String left, String right) {
    Bench b = new Bench();
    int p = b.again(8, 0);
    build(b, p, left, 0);
    build(b, p, right, 4);
    b.same(p, 0, 4);
    b.exit(p);
    b.begin(p);
    return b.machine.run(1000);
  }

  /** Slot base becomes n(digit), or a cell: tag digit, fields digit, all of the number behind. */
  private static void build(Bench b, int p, String what, int base) {
    int last = what.charAt(what.length() - 1) - '0';
    b.number(p, base, last);
    if (what.charAt(0) == 'n') return;
    int[] fields = new int[what.charAt(2) - '0'];
    for (int i = 0; i < fields.length; i++) fields[i] = base + (i == fields.length - 1 ? 0 : 1);
    b.make(p, base, what.charAt(1) - '0', fields);
  }

  private static void same() {
    check.due("SAME numbers", sameOf("n3", "n3"), 1);
    check.due("SAME other numbers", sameOf("n3", "n4"), 2);
    check.due("SAME number, cell", sameOf("n3", "c303"), 2);
    check.due("SAME cell, number", sameOf("c303", "n3"), 2);
    check.due("SAME cells without fields", sameOf("c303", "c304"), 1);
    check.due("SAME other tags", sameOf("c303", "c403"), 2);
    check.due("SAME cells with fields", sameOf("c345", "c345"), 1);
    check.due("SAME cells with another last field", sameOf("c345", "c346"), 2);
    check.due("SAME other tags with fields", sameOf("c245", "c345"), 2);
    check.due("SAME more fields", sameOf("c345", "c335"), 2);
    check.due("SAME with none", sameOf("c300", "c310"), 2);

    // what one SAME did not look at is nothing to the next
    Bench b = new Bench();
    int p = b.again(4, 4, 0);
    b.redo(p, 4);
    b.make(p, 0, 1, 0, 1);
    b.make(p, 2, 1, 2, 3);
    b.same(p, 0, 2);
    b.same(p, 1, 1);
    b.exit(p);
    b.begin(p, 1, 2, 3, 4);
    check.due("SAME behind one that failed", b.solutions(), "1 #2");
  }

  /** Makes slot 0 a value with so many pairs to look at, its last number that of slot 1. */
  private static void pairs(Bench b, int p, int many, int slot) {
    if (many == 1) {
      b.move(p, slot, 2);
    } else if (many % 2 == 0) {
      pairs(b, p, many - 1, slot);
      b.make(p, slot, 1, slot);
    } else {
      pairs(b, p, many / 2, slot);
      b.make(p, slot, 1, slot, slot);
    }
  }

  /** SAME of two values of so many pairs each, with two more values behind, if they differ. */
  private static int sameOfMany(int many, boolean differ) {
    Bench b = new Bench();
    int p = b.again(5, 0);
    b.number(p, 2, 77);
    pairs(b, p, differ ? many - 2 : many, 0);
    b.move(p, 1, 0);
    if (differ) {
      b.number(p, 3, 1);
      b.make(p, 0, 1, 0, 2);
      b.make(p, 1, 1, 1, 3);
    }
    b.same(p, 0, 1);
    b.exit(p);
    b.begin(p);
    return b.machine.run(1000);
  }

  private static void sameCountsPairs() {
    check.due("SAME with 4999 pairs", sameOfMany(4999, false), 1);
    check.due("SAME with 5000 pairs", sameOfMany(5000, false), 1);
    check.due("SAME with 5001 pairs", sameOfMany(5001, false), 6);
    check.due("SAME with 100,000 pairs", sameOfMany(100000, false), 6);
    check.due("SAME, the 5000th differs", sameOfMany(5000, true), 2);
    check.due("SAME, the 5001st differs", sameOfMany(5001, true), 6);
  }

  private static void sameIsDeep() {
    Bench b = new Bench();
    int p = b.again(5, 1, 3);
    b.loop(p);
    b.same(p, 3, 3);
    b.exit(p);
    b.begin(p, 2000);
    check.due("SAME of 2000 cells, each in the next", b.machine.run(MAX), 1);
    check.due("its text's length", b.tell(0), 1000);
    check.due("its HEAP", b.machine.told(4), 4000);
  }

  private static String summed(int left, int right, int operation) {
    Bench b = new Bench();
    int p = b.again(3, 2, 2);
    b.sum(p, 2, 0, 1, operation);
    b.exit(p);
    b.begin(p, left, right);
    return b.solutions();
  }

  private static void sum() {
    check.due("+", summed(4, -9, 0), "-5 #2");
    check.due("+ wraps", summed(MAX, 1, 0), "-2147483648 #2");
    check.due("-", summed(4, -9, 1), "13 #2");
    check.due("- wraps", summed(MIN, 1, 1), "2147483647 #2");
    check.due("*", summed(4, -9, 2), "-36 #2");
    check.due("* wraps", summed(65536, 65537, 2), "65536 #2");
    check.due("* MIN", summed(MIN, -1, 2), "-2147483648 #2");
    check.due("/", summed(7, 2, 3), "3 #2");
    check.due("/ towards 0", summed(-7, 2, 3), "-3 #2");
    check.due("/ towards 0 too", summed(7, -2, 3), "-3 #2");
    check.due("/ wraps", summed(MIN, -1, 3), "-2147483648 #2");
    check.due("/ by 0", summed(7, 0, 3), "#2");
    check.due("rest", summed(7, 3, 4), "1 #2");
    check.due("rest has the sign of b", summed(-7, 3, 4), "-1 #2");
    check.due("rest has the sign of b too", summed(7, -3, 4), "1 #2");
    check.due("rest MIN", summed(MIN, -1, 4), "0 #2");
    check.due("rest by 0", summed(7, 0, 4), "#2");
    check.due("0 * 0", summed(0, 0, 2), "0 #2");
    for (int operation = 0; operation < 5; operation++) {
      check.due("cell left of " + operation, withCell(true, 5, operation), 6);
      check.due("cell right of " + operation, withCell(false, 5, operation), 6);
    }
  }

  /** The STATE after 5 SUM or 6 COMPARE of a number 0 and a cell, above a redo point. */
  private static int withCell(boolean left, int kind, int what) {
    Bench b = new Bench();
    int p = b.again(3, 0);
    b.redo(p, 3);
    b.make(p, left ? 0 : 1, 0);
    if (kind == 5) b.sum(p, 2, 0, 1, what);
    else b.compare(p, 0, 1, what);
    b.exit(p);
    b.begin(p);
    int state = b.machine.run(3);
    check.due("the STEP that is WRONG counts", b.machine.told(1), 3);
    check.due("WRONG stays", b.machine.run(5), state);
    return state;
  }

  private static void compare() {
    int[][] pairs = {{1, 2}, {2, 2}, {3, 2}, {MIN, MAX}, {MAX, MIN}, {MIN, MIN}};
    String[] holds = {"110001", "010110", "001101", "110001", "001101", "010110"};
    for (int i = 0; i < pairs.length; i++) {
      for (int relation = 0; relation < 6; relation++) {
        Bench b = new Bench();
        int p = b.again(2, 2);
        b.compare(p, 0, 1, relation);
        b.exit(p);
        b.begin(p, pairs[i][0], pairs[i][1]);
        check.due("relation " + relation + " of " + pairs[i][0] + ", " + pairs[i][1],
            b.machine.run(9), holds[i].charAt(relation) == '1' ? 1 : 2);
      }
    }
    for (int relation = 0; relation < 6; relation++) {
      check.due("cell left of " + relation, withCell(true, 6, relation), 6);
      check.due("cell right of " + relation, withCell(false, 6, relation), 6);
    }
  }

  private static void goAndUnless() {
    Bench b = new Bench();
    int p = b.again(3, 0, 0);
    b.go(p, 3);
    b.fail(p);
    b.fail(p);
    b.make(p, 1, 4, 0);
    b.unless(p, 1, 4, 1); // has it: the next
    b.unless(p, 1, 5, 7); // another tag: 7
    b.fail(p);
    b.unless(p, 2, 0, 9); // a number: 9
    b.fail(p);
    b.number(p, 0, 6);
    b.exit(p);
    b.begin(p);
    check.due("GO and UNLESS", b.solutions(), "6 #2");
    int q = b.again(1, 0);
    b.go(q, 1999);
    b.begin(q);
    check.due("GO behind the last", b.machine.run(5), 2);
    check.due("is a step", b.machine.told(1), 2);
  }

  private static void redo() {
    Bench b = new Bench();
    int p = b.again(1, 0, 0);
    b.redo(p, 6);
    b.redo(p, 4);
    b.number(p, 0, 1);
    b.exit(p);
    b.number(p, 0, 2);
    b.exit(p);
    b.redo(p, 1999);
    b.exit(p);
    b.begin(p);
    check.due("the latest first", b.solutions(), "1 2 0 #2");
    check.due("sizes", b.told(), "2 9 3 9 0 0 3 0 1");
  }

  private static void call() {
    Bench b = new Bench();
    int p = b.again(4, 0, 0, 1);
    int q = b.again(4, 2, 3, 0, 2);
    b.number(p, 2, 7);
    b.number(p, 3, 8);
    b.call(p, q, 2, 3, 0, 1, 1);
    b.exit(p);
    b.sum(q, 3, 0, 1, 2);
    b.number(q, 0, -1);
    b.number(q, 2, 5);
    b.exit(q);
    b.begin(p);
    b.machine.run(3);
    check.due("a frame comes", b.told(), "0 3 12 12 0 0 0 0 2");
    check.due("first argument", b.machine.slot(0), 7);
    check.due("second argument", b.machine.slot(1), 8);
    check.due("other slot", b.machine.slot(2), 0);
    b.machine.run(4);
    check.due("it goes", b.told(), "0 7 6 12 0 0 0 0 1");
    check.due("first out", b.machine.slot(0), 56);
    check.due("from the left: the last stays", b.machine.slot(1), 5);
    check.due("an argument is not changed", b.machine.slot(2), 7);
    check.due("solution", b.solutions(), "56 #2");
  }

  /** p calls two(), which gives 1 and 2, as AGAIN or ONCE. */
  private static Bench callsTwo(boolean again) {
    Bench b = new Bench();
    int two = again ? b.again(1, 0, 0) : b.once(1, 0, 0);
    b.redo(two, 3);
    b.number(two, 0, 1);
    b.exit(two);
    b.number(two, 0, 2);
    b.exit(two);
    int p = b.again(3, 0, 2);
    b.number(p, 1, 10);
    b.call(p, two, 0);
    b.sum(p, 2, 0, 1, 0);
    b.number(p, 1, 100);
    b.exit(p);
    b.begin(p);
    return b;
  }

  private static void exitAgain() {
    Bench b = callsTwo(true);
    b.machine.run(5);
    check.due("its frame stays below its redo point", b.told(), "0 5 11 11 0 0 0 1 2");
    b.begin(1);
    check.due("both", b.solutions(), "11 12 #2");
    check.due("the frame went at its last exit", b.told(), "2 13 5 11 0 0 2 0 1");
  }

  private static void exitOnce() {
    Bench b = callsTwo(false);
    b.machine.run(5);
    check.due("redo point and frame go", b.told(), "0 5 5 11 0 0 0 0 1");
    b.begin(1);
    check.due("one", b.solutions(), "11 #2");

    Bench c = new Bench();
    int p = c.once(1, 0, 0);
    c.redo(p, 0);
    c.redo(p, 0);
    c.exit(p);
    c.begin(p);
    c.machine.run(3);
    check.due("the first frame is ONCE, too", c.told(), "1 3 3 9 0 0 1 0 1");
  }

  /** ONCE cuts to how many lay there at its call: what is earlier stays. */
  private static void onceKeepsEarlier() {
    Bench b = new Bench();
    int once = b.once(1, 0, 0);
    b.redo(once, 0);
    b.redo(once, 0);
    b.number(once, 0, 4);
    b.exit(once);
    int p = b.again(1, 0, 0);
    b.redo(p, 3);
    b.call(p, once, 0);
    b.exit(p);
    b.number(p, 0, 9);
    b.exit(p);
    b.begin(p);
    b.machine.run(6);
    check.due("one redo point is left", b.told(), "0 6 6 15 0 0 0 1 1");
    check.due("solutions", b.solutions(), "4 9 #2");

    // cut below that number and tried anew, the count alone decides: two of three stay
    Bench c = new Bench();
    int f = c.once(1, 0);
    c.cut(f, 0);
    for (int i = 0; i < 3; i++) c.redo(f, 5);
    c.exit(f);
    int q = c.again(1, 0);
    c.redo(q, 3);
    c.redo(q, 3);
    c.call(q, f);
    c.exit(q);
    c.begin(q);
    c.machine.run(8);
    check.due("as many as at the call are left", c.told(), "0 8 12 15 0 0 0 2 2");
  }

  private static void mark() {
    Bench b = new Bench();
    int p = b.again(3, 0);
    b.mark(p, 0);
    b.redo(p, 9);
    b.redo(p, 9);
    b.drop(p, 2);
    b.mark(p, 1);
    b.begin(p);
    b.machine.run(5);
    check.due("MARK at first", b.machine.slot(0), 0);
    check.due("MARK counts dead ones", b.machine.slot(1), 2);
  }

  private static String cutTo(int n) {
    Bench b = new Bench();
    int p = b.again(1, 1);
    b.redo(p, 5);
    b.redo(p, 5);
    b.redo(p, 5);
    b.cut(p, 0);
    b.fail(p);
    b.begin(p, n);
    b.machine.run(4);
    return b.told();
  }

  private static void cut() {
    check.due("CUT to 2", cutTo(2), "0 4 9 12 0 0 0 2 1");
    check.due("CUT to 1", cutTo(1), "0 4 6 12 0 0 0 1 1");
    check.due("CUT to 0", cutTo(0), "0 4 3 12 0 0 0 0 1");
    check.due("CUT to -1", cutTo(-1), "0 4 3 12 0 0 0 0 1");
    check.due("CUT to MIN", cutTo(MIN), "0 4 3 12 0 0 0 0 1");
    check.due("CUT to 3", cutTo(3), "0 4 12 12 0 0 0 3 1");
    check.due("CUT to 4", cutTo(4), "0 4 12 12 0 0 0 3 1");
    check.due("CUT to MAX", cutTo(MAX), "0 4 12 12 0 0 0 3 1");

    Bench b = new Bench();
    int p = b.again(1, 0);
    b.make(p, 0, 0);
    b.cut(p, 0);
    b.begin(p);
    check.due("CUT to a cell", b.machine.run(2), 6);
    int q = b.again(1, 0);
    b.make(q, 0, 0);
    b.drop(q, 0);
    b.begin(q);
    check.due("DROP of a cell", b.machine.run(2), 6);
  }

  /** A frame that has exited stays below a redo point, and goes with it when the caller cuts. */
  private static void cutLeavesFrames() {
    Bench b = new Bench();
    int g = b.again(1, 0);
    b.redo(g, 9);
    b.exit(g);
    int p = b.again(2, 0);
    b.call(p, g);
    b.cut(p, 0);
    b.exit(p);
    b.begin(p);
    b.machine.run(3);
    check.due("ahead of the cut", b.told(), "0 3 10 10 0 0 0 1 2");
    b.machine.run(1);
    check.due("behind it", b.told(), "0 4 4 10 0 0 0 0 1");

    // one redo point of two is left: what lies below it stays
    Bench c = new Bench();
    int h = c.again(1, 0);
    c.redo(h, 9);
    c.redo(h, 9);
    c.exit(h);
    int q = c.again(2, 0);
    c.call(q, h);
    c.number(q, 1, 1);
    c.cut(q, 1);
    c.begin(q);
    c.machine.run(6);
    check.due("the frame below the one that is left stays", c.told(), "0 6 10 13 0 0 0 1 2");

    // the one that is left is below the exited frame, which goes
    Bench d = new Bench();
    int k = d.again(1, 0);
    d.redo(k, 9);
    d.exit(k);
    int r = d.again(2, 0);
    d.redo(r, 9);
    d.mark(r, 0);
    d.call(r, k);
    d.cut(r, 0);
    d.begin(r);
    d.machine.run(5);
    check.due("an exited frame above a redo point", d.told(), "0 5 13 13 0 0 0 2 2");
    d.machine.run(1);
    check.due("it goes, the redo point stays", d.told(), "0 6 7 13 0 0 0 1 1");
  }

  /** A callee cuts: the frame of an exited one below it stays, until a later cut of the caller. */
  private static void cutBelowKeepsFrames() {
    Bench b = new Bench();
    int g = b.again(1, 0);
    b.redo(g, 9);
    b.exit(g);
    int h = b.again(2, 0);
    b.cut(h, 0);
    b.exit(h);
    int p = b.again(3, 0);
    b.call(p, g);
    b.call(p, h);
    b.number(p, 0, 5);
    b.cut(p, 0);
    b.exit(p);
    b.begin(p);
    b.machine.run(4);
    check.due("ahead of the cut", b.told(), "0 4 15 15 0 0 0 1 3");
    b.machine.run(1);
    check.due("the redo point goes from between", b.told(), "0 5 12 15 0 0 0 0 3");
    b.machine.run(1);
    check.due("h goes, g stays", b.told(), "0 6 8 15 0 0 0 0 2");
    b.machine.run(2);
    check.due("g goes when p cuts, though no redo point does", b.told(), "0 8 5 15 0 0 0 0 1");

    // without that cut, p has g above it, and stays when it exits into its own caller
    Bench c = new Bench();
    int k = c.again(1, 0);
    c.redo(k, 9);
    c.exit(k);
    int l = c.again(1, 0);
    c.cut(l, 0);
    c.exit(l);
    int m = c.again(1, 0);
    c.call(m, k);
    c.call(m, l);
    c.exit(m);
    int q = c.again(1, 0);
    c.call(q, m);
    c.exit(q);
    c.begin(q);
    c.machine.run(8);
    check.due("m stays below k", c.told(), "0 8 9 15 0 0 0 0 3");
    check.due("the solution", c.machine.run(1), 1);
    check.due("told there", c.told(), "1 9 9 15 0 0 1 0 3");
  }

  private static String dropped(int n) {
    Bench b = new Bench();
    int p = b.again(2, 1, 1);
    b.redo(p, 6);
    b.redo(p, 8);
    b.redo(p, 10);
    b.drop(p, 0);
    b.number(p, 1, 1);
    b.exit(p);
    b.number(p, 1, 2);
    b.exit(p);
    b.number(p, 1, 3);
    b.exit(p);
    b.number(p, 1, 4);
    b.exit(p);
    b.begin(p, n);
    b.machine.run(4);
    check.due("DROP: they lie there still", b.machine.told(7), 3);
    return b.solutions();
  }

  private static void drop() {
    check.due("DROP 0", dropped(0), "1 4 3 #2");
    check.due("DROP 1", dropped(1), "1 4 2 #2");
    check.due("DROP 2", dropped(2), "1 3 2 #2");
    check.due("DROP 3", dropped(3), "1 4 3 2 #2");
    check.due("DROP -1", dropped(-1), "1 4 3 2 #2");
    check.due("DROP MIN", dropped(MIN), "1 4 3 2 #2");
    check.due("DROP MAX", dropped(MAX), "1 4 3 2 #2");

    // a redo point that comes in a dead one's place is not dead
    Bench b = new Bench();
    int p = b.again(2, 0, 1);
    b.redo(p, 7);
    b.drop(p, 0);
    b.cut(p, 0);
    b.redo(p, 6);
    b.number(p, 1, 1);
    b.exit(p);
    b.exit(p);
    b.begin(p);
    check.due("a new one in its place", b.solutions(), "1 0 #2");
  }

  /** Slots of the frame, of its callers and of exited frames are as they were. */
  private static void failRestores() {
    Bench b = new Bench();
    int g = b.again(2, 1, 1);
    b.redo(g, 3);
    b.number(g, 0, 50);
    b.go(g, 4);
    b.sum(g, 0, 0, 0, 0);
    b.move(g, 1, 0);
    b.exit(g);
    int p = b.again(3, 1, 2);
    b.call(p, g, 0, 1);
    b.sum(p, 2, 0, 1, 0);
    b.number(p, 0, 1000);
    b.number(p, 1, 1000);
    b.exit(p);
    b.begin(p, 4);
    check.due("50 + 4, then 8 + 4", b.solutions(), "54 12 #2");

    // across a dead redo point and one that was cut
    Bench c = new Bench();
    int q = c.again(3, 1, 0);
    c.redo(q, 9);
    c.number(q, 0, 2);
    c.redo(q, 9);
    c.number(q, 0, 3);
    c.number(q, 2, 1);
    c.drop(q, 2);
    c.number(q, 0, 4);
    c.redo(q, 9);
    c.exit(q);
    c.exit(q);
    c.begin(q, 1);
    check.due("dead one passed over", c.solutions(), "4 4 1 #2");

    Bench d = new Bench();
    int r = d.again(3, 1, 0);
    d.redo(r, 8);
    d.number(r, 0, 2);
    d.redo(r, 8);
    d.number(r, 0, 3);
    d.number(r, 1, 1);
    d.cut(r, 1);
    d.number(r, 0, 4);
    d.exit(r);
    d.exit(r);
    d.begin(r, 1);
    check.due("a cut one is not gone back to", d.solutions(), "4 1 #2");
  }

  private static void failRestoresHeap() {
    Bench b = new Bench();
    int p = b.again(2, 1, 0);
    b.make(p, 0, 1, 0);
    b.redo(p, 5);
    b.make(p, 0, 2, 0, 0, 0);
    b.make(p, 1, 3, 0, 0, 0, 0);
    b.exit(p);
    b.make(p, 0, 4, 0, 0);
    b.exit(p);
    b.begin(p, 6);
    b.machine.run(9);
    check.due("HEAP", b.machine.told(4), 11);
    check.due("the first", b.text(0), "c2(c1(6),c1(6),c1(6))");
    b.machine.run(1);
    check.due("HEAP as it was, and 3 more", b.machine.told(4), 5);
    check.due("the greatest HEAP", b.machine.told(5), 11);
    b.machine.run(1);
    check.due("the second", b.text(0), "c4(c1(6),c1(6))");
  }

  /** Where there is no redo point nothing goes; dead ones and what is above them do. */
  private static void noMoreLeavesAll() {
    Bench b = new Bench();
    int g = b.again(2, 0);
    b.make(g, 0, 0, 1);
    b.fail(g);
    int p = b.again(3, 0);
    b.call(p, g);
    b.begin(p);
    check.due("no more", b.machine.run(9), 2);
    check.due("frames and HEAP stay", b.told(), "2 3 9 9 2 2 0 0 2");

    Bench c = new Bench();
    int h = c.again(2, 0);
    c.make(h, 0, 0, 1);
    c.fail(h);
    int q = c.again(3, 0);
    c.redo(q, 3);
    c.drop(q, 0);
    c.call(q, h);
    c.begin(q);
    check.due("no more behind a dead one", c.machine.run(9), 2);
    check.due("what lay above it goes", c.told(), "2 5 5 12 2 2 0 0 1");
  }

  private static void stackFull() {
    Bench b = new Bench();
    int p = b.again(1, 0);
    b.call(p, p);
    b.row().machine.begin(p, 10, 0);
    check.due("CALL", b.machine.run(9), 4);
    check.due("it is not done, its step counts", b.told(), "4 3 9 9 0 0 0 0 3");
    check.due("it stays", b.machine.run(9), 4);
    b.machine.begin(p, 9, 0);
    b.machine.run(2);
    check.due("up to the limit is not beyond it", b.told(), "0 2 9 9 0 0 0 0 3");
    b.begin(p);
    check.due("20,000", b.machine.run(MAX), 4);
    check.due("6666 frames of 3", b.told(), "4 6666 19998 19998 0 0 0 0 6666");

    int q = b.again(2, 0);
    b.redo(q, 0);
    b.go(q, 0);
    b.machine.begin(q, 7, 0);
    check.due("TRY up to the limit", b.machine.run(1), 0);
    check.due("TRY beyond it", b.machine.run(9), 4);
    check.due("it is not done either", b.told(), "4 3 7 7 0 0 0 1 1");
  }

  private static void heapFull() {
    Bench b = new Bench();
    int p = b.again(1, 0);
    b.make(p, 0, 0);
    b.make(p, 0, 0, 0, 0);
    b.make(p, 0, 0, 0);
    b.machine.begin(p, 100, 0);
    check.due("no fields, no HEAP", b.machine.run(1), 0);
    check.due("two do not fit 0", b.machine.run(1), 5);
    b.machine.begin(p, 100, 2);
    b.machine.run(1);
    check.due("two do not fit 2", b.machine.run(1), 5);
    check.due("told", b.told(), "5 2 3 3 0 0 0 0 1");
    b.machine.begin(p, 100, 5);
    check.due("two and one fit 5", b.machine.run(3), 0);
    b.machine.begin(p, 100, 4);
    check.due("but not 4", b.machine.run(3), 5);
    check.due("told", b.told(), "5 3 3 3 3 3 0 0 1");
    check.due("it stays", b.machine.run(9), 5);

    int q = b.again(1, 0);
    b.make(q, 0, 0, 0);
    b.go(q, 0);
    b.begin(q);
    check.due("20,000 steps of it", b.machine.run(20000), 0);
    check.due("HEAP of 20,000", b.machine.told(4), 20000);
    int r = b.again(1, 0);
    b.make(r, 0, 0, 0);
    b.make(r, 0, 0, 0);
    b.go(r, 0);
    b.begin(r);
    check.due("beyond 20,000", b.machine.run(20000), 5);
    check.due("HEAP of 20,000", b.machine.told(5), 20000);
  }
}
