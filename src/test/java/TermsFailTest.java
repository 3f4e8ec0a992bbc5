/** What the terms say of FAIL (promise 6). */
public final class TermsFailTest {
  public static void main(String[] args) {
    Sentences.testAll(TermsFailTest.class);
  }

  @Sentence(of = "Terms", says = "FAIL: the latest REDO point and all above it go")
  static void failTakesAllAbove(Check check) {
    Bench b = new Bench();
    int g = b.again(4, 0);
    b.fail(g);
    int h = b.again(2, 0);
    b.call(h, g);
    int p = b.again(1, 0);
    b.redo(p, 3);
    b.redo(p, 4);
    b.call(p, h);
    b.exit(p);
    b.exit(p);
    b.begin(p);
    b.run(4);
    check.due("ahead of FAIL", b.told(), "0 4 19 19 0 0 0 2 3");
    b.run(1);
    check.due("behind it", b.told(), "0 5 6 19 0 0 0 1 1");
  }

  @Sentence(of = "Terms", says = "If it was DEAD, FAIL again")
  static void failThroughDead(Check check) {
    Bench b = new Bench();
    int p = b.again(3, 1, 0);
    b.redo(p, 9);
    b.number(p, 0, 2);
    b.redo(p, 9);
    b.number(p, 0, 3);
    b.number(p, 2, 1);
    b.drop(p, 2);
    b.number(p, 0, 4);
    b.redo(p, 9);
    b.exit(p);
    b.exit(p);
    b.begin(p, 1);
    check.due("the dead one is passed over", b.solutions(), "4 4 1 #2");

    // all of many are dead but the first
    Bench c = new Bench();
    int q = c.again(2, 1, 0);
    c.redo(q, 22);
    for (int i = 1; i <= 7; i++) {
      c.redo(q, 0);
      c.number(q, 1, i);
      c.drop(q, 1);
    }
    c.fail(q);
    c.exit(q);
    c.begin(q, 5);
    c.run(22);
    check.due("ahead of FAIL", c.told(), "0 22 28 28 0 0 0 8 1");
    c.run(1);
    check.due("one STEP through all", c.told(), "0 23 4 28 0 0 0 0 1");
    check.due("gone to the live one", c.slot(1), 0);
  }

  @Sentence(of = "Terms", says = "when there is none, NO MORE")
  static void failWithNone(Check check) {
    // where there is no redo point nothing goes
    Bench b = new Bench();
    int g = b.again(2, 0);
    b.make(g, 0, 0, 1);
    b.fail(g);
    int p = b.again(3, 0);
    b.call(p, g);
    b.begin(p);
    check.due("no more", b.run(9), 2);
    check.due("frames and HEAP stay", b.told(), "2 3 9 9 2 2 0 0 2");

    // dead ones and what is above them go
    Bench c = new Bench();
    int h = c.again(2, 0);
    c.make(h, 0, 0, 1);
    c.fail(h);
    int q = c.again(3, 0);
    c.redo(q, 3);
    c.drop(q, 0);
    c.call(q, h);
    c.begin(q);
    check.due("no more behind a dead one", c.run(9), 2);
    check.due("what lay above it goes", c.told(), "2 5 5 12 2 2 0 0 1");
  }

  @Sentence(of = "Terms",
      says = "Else all SLOTS of all FRAMES, and the HEAP, are as they were when it came",
      where = "SLOTS")
  static void failRestoresSlots(Check check) {
    Bench b = new Bench();
    int g = b.again(2, 1, 1);
    b.redo(g, 3);
    b.number(g, 0, 50);
    b.go(g, 4);
    b.sum(g, 0, 0, 0, 0);
    b.move(g, 1, 0);
    b.exit(g);
    int p = b.again(3, 1, 2);
    b.call(p, g, 0, 1);
    b.sum(p, 2, 0, 1, 0);
    b.number(p, 0, 1000);
    b.number(p, 1, 1000);
    b.exit(p);
    b.begin(p, 4);
    check.due("50 + 4, then 8 + 4", b.solutions(), "54 12 #2");

    // each kind of instruction that changes a slot, then back
    Bench c = new Bench();
    int one = c.again(1, 0, 0);
    c.number(one, 0, 9);
    c.exit(one);
    int q = c.again(8, 8);
    c.redo(q, 9);
    c.number(q, 0, 90);
    c.move(q, 1, 0);
    c.make(q, 2, 0, 0, 1);
    c.take(q, 2, 0, 3, 4);
    c.sum(q, 5, 0, 1, 0);
    c.mark(q, 6);
    c.call(q, one, 7);
    c.fail(q);
    c.go(q, 9);
    c.begin(q, 10, 11, 12, 13, 14, 15, 16, 17);
    c.run(10);
    long[] changed = {90, 90, (1L << 40), 90, 90, 180, 1, 9};
    for (int k = 0; k < 8; k++) check.due("ahead of FAIL, slot " + k, c.slot(k), changed[k]);
    check.due("ahead of FAIL, HEAP", c.told(4), 3);
    c.run(1);
    for (int k = 0; k < 8; k++) check.due("slot " + k, c.slot(k), 10 + k);
    check.due("HEAP", c.told(4), 0);
  }

  @Sentence(of = "Terms",
      says = "Else all SLOTS of all FRAMES, and the HEAP, are as they were when it came",
      where = "SLOTS, on a STACK that is all but full")
  static void failRestoresHighUp(Check check) {
    Bench b = new Bench();
    int p = b.again(40, 1);
    b.redo(p, 5);
    b.compare(p, 0, 1, 2);
    b.number(p, 2, 1);
    b.sum(p, 0, 0, 2, 1);
    b.call(p, p, 0);
    b.number(p, 39, 8); // instruction 5, in the last frame
    b.redo(p, 9);
    b.number(p, 39, 77);
    b.fail(p);
    b.redo(p, 5);
    b.fail(p);
    b.begin(p, 439);
    b.run(439 * 5 + 5);
    check.due("told", b.told(), "0 2200 19800 19800 0 0 0 440 440");
    check.due("changed", b.slot(39), 77);
    b.run(1);
    check.due("as it was", b.slot(39), 8);
    check.due("told", b.told(), "0 2201 19797 19800 0 0 0 439 440");
    b.run(2);
    check.due("gone back once more", b.slot(39), 8);
  }

  /** What changed above redo points that were cut is changed back by the one below them, too. */
  @Sentence(of = "Terms",
      says = "Else all SLOTS of all FRAMES, and the HEAP, are as they were when it came",
      where = "SLOTS, though later REDO points were cut")
  static void failRestoresAcrossCuts(Check check) {
    Bench b = new Bench();
    int p = b.again(4, 1, 0);
    b.number(p, 1, 1);
    b.redo(p, 10);
    for (int i = 0; i < 3; i++) b.redo(p, 11);
    b.number(p, 0, 20);
    b.cut(p, 1);
    b.number(p, 0, 30);
    b.number(p, 3, 30);
    b.fail(p);
    b.exit(p);
    b.fail(p);
    b.begin(p, 7);
    b.run(10);
    check.due("back at the first", b.told(), "0 10 6 18 0 0 0 0 1");
    check.due("slot 0", b.slot(0), 7);
    check.due("slot 3", b.slot(3), 0);
  }

  @Sentence(of = "Terms",
      says = "Else all SLOTS of all FRAMES, and the HEAP, are as they were when it came",
      where = "the HEAP")
  static void failRestoresHeap(Check check) {
    Bench b = new Bench();
    int p = b.again(2, 1, 0);
    b.make(p, 0, 1, 0);
    b.redo(p, 5);
    b.make(p, 0, 2, 0, 0, 0);
    b.make(p, 1, 3, 0, 0, 0, 0);
    b.exit(p);
    b.make(p, 0, 4, 0, 0);
    b.exit(p);
    b.begin(p, 6);
    b.run(9);
    check.due("HEAP", b.told(4), 11);
    check.due("the first", b.text(0), "c2(c1(6),c1(6),c1(6))");
    b.run(1);
    check.due("HEAP as it was, and 3 more", b.told(4), 5);
    check.due("the greatest HEAP", b.told(5), 11);
    b.run(1);
    check.due("the second", b.text(0), "c4(c1(6),c1(6))");
  }

  @Sentence(of = "Terms", says = "its FRAME is at work, its INSTRUCTION next")
  static void failGoesToItsFrame(Check check) {
    Bench b = new Bench();
    int deep = b.again(5, 0);
    b.fail(deep);
    int q = b.again(2, 1, 1);
    b.redo(q, 3);
    b.number(q, 1, 5);
    b.exit(q);
    b.number(q, 1, 6);
    b.exit(q);
    int p = b.again(3, 0, 1);
    b.number(p, 0, 4);
    b.call(p, q, 0, 1);
    b.compare(p, 1, 0, 4); // 5 equals 4: no
    b.exit(p);
    b.begin(p);
    b.run(6);
    check.due("the exited frame is at work again", b.told(), "0 6 9 12 0 0 0 0 2");
    check.due("it has no slot 2", b.slot(2), RedoMachine.NONE);
    b.run(1);
    check.due("its instruction was next", b.slot(1), 6);
    check.due("its argument", b.slot(0), 4);

    // redo points of several frames, one behind the other in the same place
    Bench c = new Bench();
    int g = c.again(3, 0);
    c.redo(g, 2);
    c.fail(g);
    c.exit(g);
    int r = c.again(2, 0, 0);
    c.call(r, g);
    c.redo(r, 4);
    c.call(r, g);
    c.fail(r);
    c.number(r, 0, 8);
    c.exit(r);
    c.begin(r);
    c.run(3);
    check.due("back in g", c.told(), "0 3 9 12 0 0 0 0 2");
    c.run(2);
    check.due("a redo point of r", c.told(), "0 5 7 12 0 0 0 1 1");
    check.due("back in g, then in r", c.solutions(), "8 #2");
    check.due("told at the end", c.told(), "2 12 4 15 0 0 1 0 1");
  }
}
