import java.util.NoSuchElementException;

/** A machine under test, with shorter ways to write programs for it. */
final class Bench {
  static final int THROWS = -7;
  final RedoMachine machine = new RedoMachine();

  Bench row(int... numbers) {
    for (int n : numbers) machine.put(n);
    return this;
  }

  int again(int slots, int ins, int... outs) {
    row(outs);
    return machine.procedure(true, slots, ins);
  }

  int once(int slots, int ins, int... outs) {
    row(outs);
    return machine.procedure(false, slots, ins);
  }

  private int add(int p, int kind, int a, int b, int c, int d) {
    return machine.add(p, kind, a, b, c, d);
  }

  int number(int p, int a, int n) {
    return add(p, 0, a, n, 0, 0);
  }

  int move(int p, int a, int b) {
    return add(p, 1, a, b, 0, 0);
  }

  int make(int p, int a, int tag, int... fields) {
    return row(fields).add(p, 2, a, tag, 0, 0);
  }

  int take(int p, int a, int tag, int... fields) {
    return row(fields).add(p, 3, a, tag, 0, 0);
  }

  int same(int p, int a, int b) {
    return add(p, 4, a, b, 0, 0);
  }

  int sum(int p, int a, int b, int c, int operation) {
    return add(p, 5, a, b, c, operation);
  }

  int compare(int p, int a, int b, int relation) {
    return add(p, 6, a, b, relation, 0);
  }

  int go(int p, int to) {
    return add(p, 7, to, 0, 0, 0);
  }

  int unless(int p, int a, int tag, int to) {
    return add(p, 8, a, tag, to, 0);
  }

  int redo(int p, int to) {
    return add(p, 9, to, 0, 0, 0);
  }

  int call(int p, int callee, int... slots) {
    return row(slots).add(p, 10, callee, 0, 0, 0);
  }

  int mark(int p, int a) {
    return add(p, 11, a, 0, 0, 0);
  }

  int cut(int p, int a) {
    return add(p, 12, a, 0, 0, 0);
  }

  int drop(int p, int a) {
    return add(p, 13, a, 0, 0, 0);
  }

  int exit(int p) {
    return add(p, 14, 0, 0, 0, 0);
  }

  int fail(int p) {
    return add(p, 15, 0, 0, 0, 0);
  }

  boolean begin(int p, int... arguments) {
    return row(arguments).machine.begin(p, 20000, 20000);
  }

  /**
   * Lets p, whose slot 0 has a number, wrap slot 3 into as many cells of tag 0; slots 1 and 2 are
   * used. Takes 8 steps and 9 for each turn. Answers the instruction that comes behind.
   */
  int loop(int p) {
    int isZero = once(3, 1, 1);
    redo(isZero, 4);
    compare(isZero, 0, 2, 4);
    make(isZero, 1, 1);
    exit(isZero);
    make(isZero, 1, 0);
    exit(isZero);
    number(p, 2, 1);
    call(p, isZero, 0, 1);
    unless(p, 1, 1, 4);
    go(p, 7);
    make(p, 3, 0, 3);
    sum(p, 0, 0, 2, 1);
    return go(p, 1) + 1;
  }

  int tell(int k) {
    try {
      return machine.tell(k);
    } catch (NoSuchElementException e) {
      return THROWS;
    }
  }

  /** OUT as it is now. */
  String out() {
    StringBuilder text = new StringBuilder();
    for (int i = 0; machine.letter(i) != RedoMachine.NONE; i++) text.append((char) machine.letter(i));
    return text.toString();
  }

  /** The k-th OUT of the solution, with its length checked against OUT itself. */
  String text(int k) {
    int length = tell(k);
    if (length == THROWS) return "throws";
    return length == out().length() ? out() : "length " + length + " but OUT is " + out();
  }

  /** All solutions of what has been begun, the texts of OUT 0, with the last state behind. */
  String solutions() {
    StringBuilder all = new StringBuilder();
    int state = machine.run(100000);
    for (int i = 0; state == 1 && i < 100; i++) {
      all.append(text(0)).append(' ');
      state = machine.run(100000);
    }
    return all.append('#').append(state).toString();
  }

  /** told(0) to told(8), with a blank between. */
  String told() {
    StringBuilder all = new StringBuilder().append(machine.told(0));
    for (int what = 1; what <= 8; what++) all.append(' ').append(machine.told(what));
    return all.toString();
  }
}
