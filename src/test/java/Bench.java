import java.util.NoSuchElementException;

/**
 * A machine under test, with shorter ways to write programs for it. It refuses a test that makes
 * more calls than the document promises something about.
 */
final class Bench {
  static final int MOST_CALLS = 512;
  /** What tell answers here where it throws NoSuchElementException. */
  static final int THROWS = -7;

  private final RedoMachine machine = new RedoMachine();
  private int calls = 0;

  private RedoMachine called() {
    if (calls == MOST_CALLS) throw new IllegalStateException("the test makes too many calls");
    calls++;
    return machine;
  }

  boolean put(int n) {
    return called().put(n);
  }

  int procedure(boolean again, int slots, int ins) {
    return called().procedure(again, slots, ins);
  }

  int add(int p, int kind, int a, int b, int c, int d) {
    return called().add(p, kind, a, b, c, d);
  }

  boolean beginWithin(int p, int stack, int heap) {
    return called().begin(p, stack, heap);
  }

  int run(int n) {
    return called().run(n);
  }

  int told(int what) {
    return called().told(what);
  }

  int tell(int k) {
    try {
      return called().tell(k);
    } catch (NoSuchElementException e) {
      return THROWS;
    }
  }

  int letter(int i) {
    return called().letter(i);
  }

  long slot(int k) {
    return called().slot(k);
  }

  Bench row(int... numbers) {
    for (int n : numbers) put(n);
    return this;
  }

  /** How many more numbers the row takes; it is full then. */
  int roomInRow() {
    for (int i = 0; i < 20; i++) if (!put(0)) return i;
    return 20;
  }

  int again(int slots, int ins, int... outs) {
    return row(outs).procedure(true, slots, ins);
  }

  int once(int slots, int ins, int... outs) {
    return row(outs).procedure(false, slots, ins);
  }

  int number(int p, int a, int n) {
    return add(p, 0, a, n, 0, 0);
  }

  int move(int p, int a, int b) {
    return add(p, 1, a, b, 0, 0);
  }

  int make(int p, int a, int tag, int... fields) {
    return row(fields).add(p, 2, a, tag, 0, 0);
  }

  int take(int p, int a, int tag, int... fields) {
    return row(fields).add(p, 3, a, tag, 0, 0);
  }

  int same(int p, int a, int b) {
    return add(p, 4, a, b, 0, 0);
  }

  int sum(int p, int a, int b, int c, int operation) {
    return add(p, 5, a, b, c, operation);
  }

  int compare(int p, int a, int b, int relation) {
    return add(p, 6, a, b, relation, 0);
  }

  int go(int p, int to) {
    return add(p, 7, to, 0, 0, 0);
  }

  int unless(int p, int a, int tag, int to) {
    return add(p, 8, a, tag, to, 0);
  }

  int redo(int p, int to) {
    return add(p, 9, to, 0, 0, 0);
  }

  int call(int p, int callee, int... slots) {
    return row(slots).add(p, 10, callee, 0, 0, 0);
  }

  int mark(int p, int a) {
    return add(p, 11, a, 0, 0, 0);
  }

  int cut(int p, int a) {
    return add(p, 12, a, 0, 0, 0);
  }

  int drop(int p, int a) {
    return add(p, 13, a, 0, 0, 0);
  }

  int exit(int p) {
    return add(p, 14, 0, 0, 0, 0);
  }

  int fail(int p) {
    return add(p, 15, 0, 0, 0, 0);
  }

  boolean begin(int p, int... arguments) {
    return row(arguments).beginWithin(p, 20000, 20000);
  }

  /**
   * Lets p, whose slot 0 has a number, wrap slot 3 into as many cells of tag 0; slots 1 and 2 are
   * used. Takes 8 steps and 9 for each turn. Answers the instruction that comes behind.
   */
  int loop(int p) {
    int isZero = once(3, 1, 1);
    redo(isZero, 4);
    compare(isZero, 0, 2, 4);
    make(isZero, 1, 1);
    exit(isZero);
    make(isZero, 1, 0);
    exit(isZero);
    number(p, 2, 1);
    call(p, isZero, 0, 1);
    unless(p, 1, 1, 4);
    go(p, 7);
    make(p, 3, 0, 3);
    sum(p, 0, 0, 2, 1);
    return go(p, 1) + 1;
  }

  /**
   * A machine in that STATE, whose procedure 0 takes one argument and has 2 slots and one OUT. But
   * for NONE and 2, a redo point lies there from which it would go on.
   */
  static Bench inState(int state) {
    Bench b = new Bench();
    int p = b.again(2, 1, 0);
    if (state != 2) b.redo(p, 1);
    if (state == 0) b.go(p, 2);
    if (state == 1) b.exit(p);
    if (state == 3) b.go(p, 1);
    if (state == 4) b.call(p, p, 0, 1);
    if (state == 5) b.make(p, 1, 0, 0);
    if (state == 5) b.go(p, 1);
    if (state == 6) b.make(p, 1, 0);
    if (state == 6) b.cut(p, 1);
    if (state != RedoMachine.NONE) b.row(7).beginWithin(p, 50, 10);
    b.run(state == 0 ? 1 : Integer.MAX_VALUE);
    if (b.told(0) != state) throw new IllegalStateException("not in STATE " + state);
    return b;
  }

  /** A machine in STATE 1 whose OUT 0 is the term, and OUT 1 the number 6. */
  static Bench solutionOf(Term term) {
    Bench b = new Bench();
    int p = b.again(40, 0, 0, 39);
    term.build(b, p, 0, 1);
    b.number(p, 39, 6);
    b.exit(p);
    b.begin(p);
    if (b.run(Integer.MAX_VALUE) != 1) throw new IllegalStateException("no solution");
    return b;
  }

  /** OUT from one character to ahead of another. */
  String letters(int from, int to) {
    StringBuilder text = new StringBuilder();
    for (int i = from; i < to; i++) {
      int letter = letter(i);
      text.append(letter == RedoMachine.NONE ? "#" : String.valueOf((char) letter));
    }
    return text.toString();
  }

  /** OUT as it is now, as far as it goes. */
  String out() {
    StringBuilder text = new StringBuilder();
    for (int i = 0; ; i++) {
      int letter = letter(i);
      if (letter == RedoMachine.NONE) return text.toString();
      text.append((char) letter);
    }
  }

  /** The k-th OUT of the solution, with its length checked against OUT itself. */
  String text(int k) {
    int length = tell(k);
    if (length == THROWS) return "throws";
    String text = out();
    return length == text.length() ? text : "length " + length + " but OUT is " + text;
  }

  /** All solutions of what has been begun, the texts of OUT 0, with the last state behind. */
  String solutions() {
    StringBuilder all = new StringBuilder();
    int state = run(100000);
    while (state == 1) {
      all.append(text(0)).append(' ');
      state = run(100000);
    }
    return all.append('#').append(state).toString();
  }

  /** told(0) to told(8), with a blank between. */
  String told() {
    StringBuilder all = new StringBuilder().append(told(0));
    for (int what = 1; what <= 8; what++) all.append(' ').append(told(what));
    return all.toString();
  }
}
