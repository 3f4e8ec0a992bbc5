/** What the terms say of the stack, of TRY, CALL, MARK, CUT, DROP and EXIT (promise 6). */
public final class TermsStackTest {
  private static final int MIN = Integer.MIN_VALUE;
  private static final int MAX = Integer.MAX_VALUE;

  public static void main(String[] args) {
    Sentences.testAll(TermsStackTest.class);
  }

  @Sentence(of = "Terms", says = "FRAMES (2 more than their SLOTS) and REDO points (3)")
  static void sizes(Check check) {
    Bench b = new Bench();
    int q = b.again(40, 0);
    b.redo(q, 0);
    int p = b.again(1, 0);
    b.redo(p, 1);
    b.call(p, q);
    b.begin(p);
    check.due("a frame of 1 slot", b.told(2), 3);
    b.run(1);
    check.due("and a redo point", b.told(2), 6);
    b.run(1);
    check.due("and a frame of 40 slots", b.told(2), 48);
    b.run(1);
    check.due("and a redo point", b.told(2), 51);
  }

  @Sentence(of = "Terms", says = "9 TRY to: a REDO point comes, with this FRAME and to")
  static void redoPoint(Check check) {
    Bench b = new Bench();
    int p = b.again(1, 0, 0);
    b.redo(p, 6);
    b.redo(p, 4);
    b.number(p, 0, 1);
    b.exit(p);
    b.number(p, 0, 2);
    b.exit(p);
    b.redo(p, 1999);
    b.exit(p);
    b.begin(p);
    check.due("the latest first", b.solutions(), "1 2 0 #2");
    check.due("told", b.told(), "2 9 3 9 0 0 3 0 1");
  }

  @Sentence(of = "Terms",
      says = "10 CALL p, a row .. a FRAME comes, whose first SLOTS get the VALUES of the "
          + "row's first ones; it is at work, its INSTRUCTION 0 next")
  static void call(Check check) {
    Bench b = new Bench();
    int p = b.again(4, 0, 0, 1);
    int q = b.again(4, 2, 3, 0, 2);
    b.number(p, 2, 7);
    b.number(p, 3, 8);
    b.call(p, q, 2, 3, 0, 1, 1);
    b.exit(p);
    b.sum(q, 3, 0, 1, 2);
    b.number(q, 0, -1);
    b.number(q, 2, 5);
    b.exit(q);
    b.begin(p);
    b.run(3);
    check.due("a frame comes", b.told(), "0 3 12 12 0 0 0 0 2");
    check.due("first argument", b.slot(0), 7);
    check.due("second argument", b.slot(1), 8);
    check.due("other slot", b.slot(2), 0);
    b.run(1);
    check.due("its instruction 0 was next", b.slot(3), 56);

    Bench c = new Bench();
    int ten = c.again(10, 10);
    int caller = c.again(10, 10);
    c.call(caller, ten, 9, 8, 7, 6, 5, 4, 3, 2, 1, 0);
    c.begin(caller, 0, 1, 2, 3, 4, 5, 6, 7, 8, 9);
    c.run(1);
    for (int k = 0; k < 10; k++) check.due("argument " + k, c.slot(k), 9 - k);
  }

  @Sentence(of = "Terms", says = "11 MARK a: a becomes the NUMBER of REDO points that lie there")
  static void mark(Check check) {
    Bench b = new Bench();
    int q = b.again(1, 0, 0);
    b.mark(q, 0);
    b.exit(q);
    int p = b.again(4, 0);
    b.mark(p, 0);
    b.redo(p, 9);
    b.redo(p, 9);
    b.drop(p, 2);
    b.mark(p, 1);
    b.call(p, q, 3);
    b.begin(p);
    b.run(8);
    check.due("at first", b.slot(0), 0);
    check.due("dead ones lie there", b.slot(1), 2);
    check.due("those of all frames", b.slot(3), 2);
  }

  private static String cutTo(int n) {
    Bench b = new Bench();
    int p = b.again(1, 1);
    b.redo(p, 5);
    b.redo(p, 5);
    b.redo(p, 5);
    b.cut(p, 0);
    b.fail(p);
    b.begin(p, n);
    b.run(4);
    return b.told();
  }

  @Sentence(of = "Terms", says = "CUT to n: the REDO points from number n on go")
  static void cut(Check check) {
    check.due("CUT to 2", cutTo(2), "0 4 9 12 0 0 0 2 1");
    check.due("CUT to 1", cutTo(1), "0 4 6 12 0 0 0 1 1");
    check.due("CUT to 0", cutTo(0), "0 4 3 12 0 0 0 0 1");

    Bench b = new Bench();
    int p = b.again(3, 1, 0);
    b.redo(p, 8);
    b.number(p, 0, 2);
    b.redo(p, 8);
    b.number(p, 0, 3);
    b.number(p, 1, 1);
    b.cut(p, 1);
    b.number(p, 0, 4);
    b.exit(p);
    b.exit(p);
    b.begin(p, 1);
    check.due("one that went is not gone back to", b.solutions(), "4 1 #2");
  }

  @Sentence(of = "Terms", says = "n below 0 counts as 0; where there are not more than n none go")
  static void cutBeyond(Check check) {
    check.due("CUT to -1", cutTo(-1), "0 4 3 12 0 0 0 0 1");
    check.due("CUT to MIN", cutTo(MIN), "0 4 3 12 0 0 0 0 1");
    check.due("CUT to 3", cutTo(3), "0 4 12 12 0 0 0 3 1");
    check.due("CUT to 4", cutTo(4), "0 4 12 12 0 0 0 3 1");
    check.due("CUT to MAX", cutTo(MAX), "0 4 12 12 0 0 0 3 1");

    Bench b = new Bench();
    int p = b.again(1, 1);
    b.cut(p, 0);
    for (int n : new int[] {0, 1, -1, MAX, MIN}) {
      b.begin(p, n);
      b.run(1);
      check.due("CUT to " + n + " where there are none", b.told(), "0 1 3 3 0 0 0 0 1");
    }
  }

  @Sentence(of = "Terms",
      says = "then all that lies above both the FRAME at work and the last REDO point that is "
          + "left goes")
  static void cutTakesFrames(Check check) {
    // a frame that has exited stays below a redo point, and goes with it
    Bench b = new Bench();
    int g = b.again(1, 0);
    b.redo(g, 9);
    b.exit(g);
    int p = b.again(2, 0);
    b.call(p, g);
    b.cut(p, 0);
    b.exit(p);
    b.begin(p);
    b.run(3);
    check.due("ahead of the cut", b.told(), "0 3 10 10 0 0 0 1 2");
    b.run(1);
    check.due("behind it", b.told(), "0 4 4 10 0 0 0 0 1");

    // one redo point of two is left: what lies below it stays
    Bench c = new Bench();
    int h = c.again(1, 0);
    c.redo(h, 9);
    c.redo(h, 9);
    c.exit(h);
    int q = c.again(2, 0);
    c.call(q, h);
    c.number(q, 1, 1);
    c.cut(q, 1);
    c.begin(q);
    c.run(6);
    check.due("the frame below the one that is left stays", c.told(), "0 6 10 13 0 0 0 1 2");

    // the one that is left is below the exited frame, which goes
    Bench d = new Bench();
    int k = d.again(1, 0);
    d.redo(k, 9);
    d.exit(k);
    int r = d.again(2, 0);
    d.redo(r, 9);
    d.mark(r, 0);
    d.call(r, k);
    d.cut(r, 0);
    d.begin(r);
    d.run(5);
    check.due("an exited frame above a redo point", d.told(), "0 5 13 13 0 0 0 2 2");
    d.run(1);
    check.due("it goes, the redo point stays", d.told(), "0 6 7 13 0 0 0 1 1");
  }

  @Sentence(of = "Terms",
      says = "then all that lies above both the FRAME at work and the last REDO point that is "
          + "left goes",
      where = "what lies below one of them stays")
  static void cutLeavesFramesBelow(Check check) {
    Bench b = new Bench();
    int g = b.again(1, 0);
    b.redo(g, 9);
    b.exit(g);
    int h = b.again(2, 0);
    b.cut(h, 0);
    b.exit(h);
    int p = b.again(3, 0);
    b.call(p, g);
    b.call(p, h);
    b.number(p, 0, 5);
    b.cut(p, 0);
    b.exit(p);
    b.begin(p);
    b.run(4);
    check.due("ahead of the cut", b.told(), "0 4 15 15 0 0 0 1 3");
    b.run(1);
    check.due("the redo point goes from between", b.told(), "0 5 12 15 0 0 0 0 3");
    b.run(1);
    check.due("h goes, g stays", b.told(), "0 6 8 15 0 0 0 0 2");
    b.run(2);
    check.due("g goes when p cuts, though no redo point does", b.told(), "0 8 5 15 0 0 0 0 1");

    // the frame at work lies above the one that is left, and has an exited one above it
    Bench c = new Bench();
    int k = c.again(4, 0);
    c.redo(k, 9);
    c.exit(k);
    int r = c.again(2, 1);
    c.call(r, k);
    c.cut(r, 0);
    c.exit(r);
    int q = c.again(1, 1);
    c.redo(q, 9);
    c.call(q, r, 0);
    c.begin(q, 1);
    c.run(4);
    check.due("ahead of the cut", c.told(), "0 4 19 19 0 0 0 2 3");
    c.run(2);
    check.due("k goes, r stays", c.told(), "0 6 10 19 0 0 0 1 2");
    c.run(1);
    check.due("r goes at its EXIT", c.told(), "0 7 6 19 0 0 0 1 1");
  }

  @Sentence(of = "Terms",
      says = "13 DROP a: the REDO point with the number n that a has .. is DEAD")
  static void drop(Check check) {
    check.due("DROP 0", dropped(check, 0), "1 4 3 #2");
    check.due("DROP 1", dropped(check, 1), "1 4 2 #2");
    check.due("DROP 2", dropped(check, 2), "1 3 2 #2");

    // a redo point that comes in a dead one's place is not dead
    Bench b = new Bench();
    int p = b.again(2, 0, 1);
    b.redo(p, 7);
    b.drop(p, 0);
    b.cut(p, 0);
    b.redo(p, 6);
    b.number(p, 1, 1);
    b.exit(p);
    b.exit(p);
    b.begin(p);
    check.due("a new one in its place", b.solutions(), "1 0 #2");
  }

  private static String dropped(Check check, int n) {
    Bench b = new Bench();
    int p = b.again(2, 1, 1);
    b.redo(p, 6);
    b.redo(p, 8);
    b.redo(p, 10);
    b.drop(p, 0);
    for (int i = 1; i <= 4; i++) {
      b.number(p, 1, i);
      b.exit(p);
    }
    b.begin(p, n);
    b.run(4);
    check.due("they lie there still", b.told(), "0 4 13 13 0 0 0 3 1");
    return b.solutions();
  }

  @Sentence(of = "Terms", says = "13 DROP .. if it lies there")
  static void dropOfNone(Check check) {
    for (int n : new int[] {3, 4, -1, MIN, MAX}) {
      check.due("DROP " + n, dropped(check, n), "1 4 3 2 #2");
    }
    Bench b = new Bench();
    int p = b.again(1, 1, 0);
    b.drop(p, 0);
    b.redo(p, 4);
    b.number(p, 0, 8);
    b.exit(p);
    b.exit(p);
    b.begin(p, 0);
    check.due("DROP where there are none: what comes later is not dead", b.solutions(), "8 0 #2");
  }

  /** p calls two(), which gives 1 and 2, as AGAIN or ONCE. */
  private static Bench callsTwo(boolean again) {
    Bench b = new Bench();
    int two = again ? b.again(1, 0, 0) : b.once(1, 0, 0);
    b.redo(two, 3);
    b.number(two, 0, 1);
    b.exit(two);
    b.number(two, 0, 2);
    b.exit(two);
    int p = b.again(3, 0, 2);
    b.number(p, 1, 10);
    b.call(p, two, 0);
    b.sum(p, 2, 0, 1, 0);
    b.number(p, 1, 100);
    b.exit(p);
    b.begin(p);
    return b;
  }

  @Sentence(of = "Terms",
      says = "EXIT of a FRAME: if its PROCEDURE is ONCE: CUT to how many REDO points lay "
          + "there at its CALL")
  static void exitOnce(Check check) {
    Bench b = callsTwo(false);
    b.run(5);
    check.due("redo point and frame go", b.told(), "0 5 5 11 0 0 0 0 1");
    b.begin(1);
    check.due("one solution", b.solutions(), "11 #2");

    // what is earlier stays
    Bench c = new Bench();
    int once = c.once(1, 0, 0);
    c.redo(once, 0);
    c.redo(once, 0);
    c.number(once, 0, 4);
    c.exit(once);
    int p = c.again(1, 0, 0);
    c.redo(p, 3);
    c.call(p, once, 0);
    c.exit(p);
    c.number(p, 0, 9);
    c.exit(p);
    c.begin(p);
    c.run(6);
    check.due("the earlier redo point is left", c.told(), "0 6 6 15 0 0 0 1 1");
    check.due("solutions", c.solutions(), "4 9 #2");

    // cut below that number and tried anew, the count alone decides: two of three stay
    Bench d = new Bench();
    int f = d.once(1, 0);
    d.cut(f, 0);
    for (int i = 0; i < 3; i++) d.redo(f, 5);
    d.exit(f);
    int q = d.again(1, 0);
    d.redo(q, 3);
    d.redo(q, 3);
    d.call(q, f);
    d.exit(q);
    d.begin(q);
    d.run(8);
    check.due("as many as at the call are left", d.told(), "0 8 12 15 0 0 0 2 2");
  }

  @Sentence(of = "Terms",
      says = "EXIT of a FRAME: if its PROCEDURE is ONCE",
      where = "AGAIN: it may succeed again")
  static void exitAgain(Check check) {
    Bench b = callsTwo(true);
    b.run(5);
    check.due("its frame stays below its redo point", b.told(), "0 5 11 11 0 0 0 1 2");
    b.begin(1);
    check.due("both solutions", b.solutions(), "11 12 #2");
    check.due("the frame went at its last exit", b.told(), "2 13 5 11 0 0 2 0 1");
  }

  @Sentence(of = "Terms",
      says = "Then its OUTS' VALUES go to the row's last SLOTS of its CALL, from the left, in "
          + "the FRAME of that")
  static void exitGivesOuts(Check check) {
    Bench b = new Bench();
    int q = b.again(4, 2, 3, 0, 2);
    b.sum(q, 3, 0, 1, 2);
    b.number(q, 0, -1);
    b.number(q, 2, 5);
    b.exit(q);
    int p = b.again(4, 0, 0, 1);
    b.number(p, 2, 7);
    b.number(p, 3, 8);
    b.call(p, q, 2, 3, 0, 1, 1);
    b.exit(p);
    b.begin(p);
    b.run(7);
    check.due("first out", b.slot(0), 56);
    check.due("from the left: the last stays", b.slot(1), 5);
    check.due("an argument is not changed", b.slot(2), 7);
    check.due("solution", b.solutions(), "56 #2");

    Bench c = new Bench();
    int eight = c.again(8, 2, 0, 1, 2, 3, 4, 5, 6, 7);
    for (int k = 2; k < 8; k++) c.number(eight, k, 10 * k);
    c.exit(eight);
    int r = c.again(10, 0);
    c.number(r, 8, 1);
    c.number(r, 9, 2);
    c.call(r, eight, 9, 8, 7, 6, 5, 4, 3, 2, 1, 0);
    c.begin(r);
    c.run(10);
    int[] due = {70, 60, 50, 40, 30, 20, 1, 2, 1, 2};
    for (int k = 0; k < 10; k++) check.due("slot " + k, c.slot(k), due[k]);
  }

  @Sentence(of = "Terms", says = "it goes from the STACK if nothing lies above it")
  static void exitLeavesFrame(Check check) {
    Bench b = callsTwo(true);
    b.run(3);
    check.due("a redo point above it", b.told(), "0 3 11 11 0 0 0 1 2");
    b.run(2);
    check.due("it stays", b.told(), "0 5 11 11 0 0 0 1 2");

    // k, which has exited, lies above m though its redo point was cut: m stays
    Bench c = new Bench();
    int k = c.again(1, 0);
    c.redo(k, 9);
    c.exit(k);
    int l = c.again(1, 0);
    c.cut(l, 0);
    c.exit(l);
    int m = c.again(1, 0);
    c.call(m, k);
    c.call(m, l);
    c.exit(m);
    int q = c.again(1, 0);
    c.call(q, m);
    c.exit(q);
    c.begin(q);
    c.run(8);
    check.due("m stays below k", c.told(), "0 8 9 15 0 0 0 0 3");
    check.due("the solution", c.run(1), 1);
    check.due("told there", c.told(), "1 9 9 15 0 0 1 0 3");

    // a redo point below the frame is no matter
    Bench d = new Bench();
    int e = d.again(5, 0);
    d.exit(e);
    int r = d.again(3, 0);
    d.redo(r, 9);
    d.call(r, e);
    d.begin(r);
    d.run(3);
    check.due("it goes from above a redo point", d.told(), "0 3 8 15 0 0 0 1 1");
  }

  @Sentence(of = "Terms", says = "that FRAME is at work, the INSTRUCTION behind its CALL next")
  static void exitGoesOnBehindCall(Check check) {
    Bench b = new Bench();
    int q = b.again(1, 1, 0);
    b.number(q, 0, 3);
    b.go(q, 4);
    b.fail(q);
    b.fail(q);
    b.exit(q);
    int p = b.again(3, 0, 2);
    b.call(p, q, 0, 1);
    b.sum(p, 2, 2, 1, 0);
    b.call(p, q, 0, 1);
    b.sum(p, 2, 2, 1, 0);
    b.exit(p);
    b.begin(p);
    check.due("both calls are gone on behind", b.solutions(), "6 #2");

    Bench c = new Bench();
    int r = c.again(1, 0);
    c.exit(r);
    int last = c.again(1, 0);
    c.call(last, r);
    c.begin(last);
    check.due("behind a CALL that is the last: FAIL", c.run(9), 2);
    check.due("steps", c.told(1), 3);
  }

  @Sentence(of = "Terms", says = "The first FRAME, instead: it is a SOLUTION, with its OUTS")
  static void exitOfTheFirst(Check check) {
    Bench b = new Bench();
    int p = b.once(1, 0, 0);
    b.redo(p, 0);
    b.redo(p, 0);
    b.exit(p);
    b.begin(p);
    b.run(3);
    check.due("if it is ONCE, it cuts too, and it stays", b.told(), "1 3 3 9 0 0 1 0 1");
    check.due("no more", b.run(9), 2);

    // the same procedure, called, is no solution
    Bench c = new Bench();
    int q = c.again(2, 1, 1);
    c.unless(q, 0, 1, 4);
    c.number(q, 1, 6);
    c.exit(q);
    c.fail(q);
    c.make(q, 0, 1);
    c.call(q, q, 0, 1);
    c.exit(q);
    c.begin(q, 0);
    c.run(6);
    check.due("the called one's EXIT", c.told(), "0 6 4 8 0 0 0 0 1");
    check.due("the first one's", c.solutions(), "6 #2");
    check.due("solutions", c.told(6), 1);
  }

  @Sentence(of = "Terms",
      says = "What would make the SIZE or the HEAP greater than its limit is not done: STACK "
          + "FULL, HEAP FULL (the STEP counts)",
      where = "STACK FULL")
  static void stackFull(Check check) {
    Bench b = new Bench();
    int p = b.again(1, 0);
    b.call(p, p);
    b.beginWithin(p, 11, 0);
    check.due("CALL", b.run(9), 4);
    check.due("it is not done, its step counts", b.told(), "4 3 9 9 0 0 0 0 3");
    b.beginWithin(p, 9, 0);
    b.run(2);
    check.due("CALL up to the limit is not beyond it", b.told(), "0 2 9 9 0 0 0 0 3");
    check.due("CALL beyond it", b.run(1), 4);
    b.begin(p);
    check.due("CALL beyond 20,000", b.run(MAX), 4);
    check.due("6666 frames of 3", b.told(), "4 6666 19998 19998 0 0 0 0 6666");

    int q = b.again(2, 0);
    b.redo(q, 0);
    b.go(q, 0);
    b.beginWithin(q, 7, 0);
    check.due("TRY up to the limit", b.run(1), 0);
    check.due("TRY beyond it", b.run(9), 4);
    check.due("it is not done, its step counts", b.told(), "4 3 7 7 0 0 0 1 1");
    b.beginWithin(q, 6, 0);
    check.due("TRY beyond it by one", b.run(1), 4);
    check.due("told", b.told(), "4 1 4 4 0 0 0 0 1");
    b.beginWithin(q, 4, 0);
    check.due("TRY with no room at all", b.run(1), 4);

    int r = b.again(18, 0);
    b.redo(r, 0);
    b.go(r, 0);
    b.begin(r);
    check.due("TRY to 20,000", b.run(13319), 0);
    check.due("told", b.told(), "0 13319 20000 20000 0 0 0 6660 1");
    check.due("TRY beyond 20,000", b.run(MAX), 4);
  }
}
