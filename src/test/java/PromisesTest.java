/** Promises 1 to 10 of the document, each with ordinary inputs, edges and wrong inputs. */
public final class PromisesTest {
  private static final int NONE = RedoMachine.NONE;
  private static final int MIN = Integer.MIN_VALUE;
  private static final int MAX = Integer.MAX_VALUE;
  private static final Check check = new Check("promises");

  public static void main(String[] args) {
    newObject();
    put();
    rowIsTakenByRefusedCalls();
    procedure();
    procedureCount();
    addNumbers();
    addSlots();
    addOthers();
    addRows();
    addCall();
    addWhileAtWork();
    begin();
    beginAnew();
    run();
    fuel();
    told();
    tell();
    tellIsCut();
    letter();
    slot();
    check.end();
  }

  private static void newObject() {
    Bench b = new Bench();
    check.due("1: told of a new object", b.told(), "-1 0 0 0 0 0 0 0 0");
    check.due("1: run", b.machine.run(10), NONE);
    check.due("1: tell", b.tell(0), Bench.THROWS);
    check.due("1: letter", b.machine.letter(0), NONE);
    check.due("1: slot", b.machine.slot(0), NONE);
    check.due("1: no procedure to begin", b.begin(0), false);
    check.due("1: no procedure to add to", b.exit(0), NONE);
    int p = b.machine.procedure(true, 1, 0);
    check.due("1: the first procedure", p, 0);
    b.exit(p);
    check.due("1: begin", b.begin(p), true);
    check.due("1: run to the solution", b.machine.run(1), 1);
    check.due("1: the row was empty, so it has no OUTS", b.tell(0), Bench.THROWS);
  }

  private static void put() {
    Bench b = new Bench();
    for (int i = 0; i < 10; i++) check.due("2: put " + i, b.machine.put(i), true);
    check.due("2: an 11th", b.machine.put(10), false);
    check.due("2: a 12th", b.machine.put(MIN), false);
    int p = b.machine.procedure(true, 40, 0);
    check.due("2: ten OUTS are too many", p, NONE);
    check.due("2: empty again", b.machine.put(7), true);
    check.due("2: one OUT", b.machine.procedure(true, 8, 0), 0);

    Bench c = new Bench();
    int q = c.again(10, 10);
    for (int i = 0; i < 12; i++) c.machine.put(i + 100);
    check.due("2: the ten that came are the row", c.machine.begin(q, 100, 0), true);
    check.due("2: its first", c.machine.slot(0), 100);
    check.due("2: its last", c.machine.slot(9), 109);
  }

  private static void rowIsTakenByRefusedCalls() {
    Bench b = new Bench();
    int p = b.again(3, 1);
    b.row(1, 2);
    check.due("2: refused procedure", b.machine.procedure(true, 0, 0), NONE);
    check.due("2: the row is empty, so begin lacks one", b.begin(p), false);
    b.row(1, 2);
    check.due("2: refused add", b.machine.add(9, 2, 0, 0, 0, 0), NONE);
    check.due("2: begin with one", b.begin(p, 5), true);
    b.row(1, 2);
    check.due("2: refused begin", b.machine.begin(9, 100, 100), false);
    check.due("2: begin with one", b.begin(p, 6), true);
    b.row(1, 2);
    check.due("2: add of what has no row takes it", b.fail(p), 0);
    check.due("2: begin with one", b.begin(p, 7), true);
    check.due("2: the argument", b.machine.slot(0), 7);
    b.row(1);
    b.machine.run(0);
    b.machine.told(0);
    b.machine.slot(0);
    b.machine.letter(0);
    b.tell(0);
    check.due("2: other calls leave the row", b.machine.begin(p, 100, 100), true);
  }

  private static void procedure() {
    Bench b = new Bench();
    int[] wrongSlots = {0, -1, 41, MIN, MAX};
    for (int slots : wrongSlots) check.due("3: slots " + slots, b.again(slots, 0), NONE);
    check.due("3: ins -1", b.again(5, -1), NONE);
    check.due("3: ins MIN", b.again(5, MIN), NONE);
    check.due("3: ins MAX", b.again(5, MAX), NONE);
    check.due("3: more ins than slots", b.again(5, 6), NONE);
    check.due("3: 11 ins", b.again(40, 11), NONE);
    check.due("3: 9 outs", b.again(40, 0, 0, 1, 2, 3, 4, 5, 6, 7, 8), NONE);
    check.due("3: 3 ins and 8 outs", b.again(40, 3, 0, 1, 2, 3, 4, 5, 6, 7), NONE);
    check.due("3: 10 ins and 1 out", b.again(40, 10, 0), NONE);
    check.due("3: out -1", b.again(5, 0, 0, -1), NONE);
    check.due("3: out 5 of 5", b.again(5, 0, 5), NONE);
    check.due("3: the least", b.once(1, 0), 0);
    check.due("3: all slots are ins", b.again(1, 1, 0), 1);
    check.due("3: 40 slots, 2 ins, 8 outs", b.again(40, 2, 39, 39, 0, 1, 2, 3, 4, 5), 2);
    check.due("3: 10 ins", b.once(10, 10), 3);
    check.due("3: the 40-slot frame", b.begin(2, 1, 2), true);
    check.due("3: its size", b.machine.told(2), 42);
  }

  private static void procedureCount() {
    Bench b = new Bench();
    for (int i = 0; i < 60; i++) check.due("3: procedure " + i, b.again(1, 0), i);
    check.due("3: a 61st", b.again(1, 0), NONE);
    check.due("3: the last can be added to", b.exit(59), 0);
    check.due("3: there is none behind", b.exit(60), NONE);
  }

  private static void addNumbers() {
    Bench b = new Bench();
    int p = b.again(2, 0);
    int q = b.again(2, 0);
    check.due("4: first of p", b.exit(p), 0);
    check.due("4: second of p", b.exit(p), 1);
    check.due("4: first of q", b.exit(q), 0);
    check.due("4: refused ones take no number", b.number(p, 2, 0), NONE);
    check.due("4: third of p", b.exit(p), 2);
    int[] wrong = {-1, 2, MIN, MAX};
    for (int n : wrong) check.due("4: procedure " + n, b.exit(n), NONE);
    int[] wrongKinds = {-1, 16, MIN, MAX};
    for (int n : wrongKinds) {
      check.due("4: instruction " + n, b.machine.add(p, n, 0, 0, 0, 0), NONE);
    }
  }

  /** Which of a, b, c are SLOTS, by instruction. */
  private static final String[] SLOT_PLACES = {
    "a", "ab", "a", "a", "ab", "abc", "ab", "", "a", "", "", "a", "a", "a", "", "",
  };

  private static void addSlots() {
    int[] wrong = {-1, 3, MIN, MAX};
    for (int kind = 0; kind < 16; kind++) {
      Bench b = new Bench();
      int p = b.again(3, 0);
      check.due("4: all 0 fits " + kind, b.machine.add(p, kind, 0, 0, 0, 0), 0);
      for (int n : wrong) {
        for (char place = 'a'; place <= 'c'; place++) {
          if (SLOT_PLACES[kind].indexOf(place) < 0) continue;
          int got = b.machine.add(p, kind, place == 'a' ? n : 0, place == 'b' ? n : 0,
              place == 'c' ? n : 0, 0);
          check.due("4: slot " + place + " = " + n + " of " + kind, got, NONE);
        }
      }
      int last = b.machine.add(p, kind, SLOT_PLACES[kind].contains("a") ? 2 : 0,
          SLOT_PLACES[kind].contains("b") ? 2 : 0, SLOT_PLACES[kind].contains("c") ? 2 : 0, 0);
      check.due("4: the last slot fits " + kind, last, 1);
    }
  }

  private static void addOthers() {
    Bench b = new Bench();
    int p = b.again(3, 0);
    int[] wrongTags = {-1, 32, MIN, MAX};
    for (int tag : wrongTags) {
      check.due("4: MAKE tag " + tag, b.make(p, 0, tag), NONE);
      check.due("4: TAKE tag " + tag, b.take(p, 0, tag), NONE);
      check.due("4: UNLESS tag " + tag, b.unless(p, 0, tag, 0), NONE);
    }
    int[] wrongTo = {-1, 2000, MIN, MAX};
    for (int to : wrongTo) {
      check.due("4: GO " + to, b.go(p, to), NONE);
      check.due("4: UNLESS to " + to, b.unless(p, 0, 0, to), NONE);
      check.due("4: TRY " + to, b.redo(p, to), NONE);
    }
    for (int n : new int[] {-1, 5, 6, MIN, MAX}) {
      check.due("4: operation " + n, b.sum(p, 0, 0, 0, n), NONE);
    }
    for (int n : new int[] {-1, 6, MIN, MAX}) {
      check.due("4: relation " + n, b.compare(p, 0, 0, n), NONE);
    }
    check.due("4: MAKE tag 31", b.make(p, 0, 31), 0);
    check.due("4: TAKE tag 31", b.take(p, 0, 31), 1);
    check.due("4: UNLESS tag 31 to 1999", b.unless(p, 0, 31, 1999), 2);
    check.due("4: GO 1999", b.go(p, 1999), 3);
    check.due("4: TRY 1999", b.redo(p, 1999), 4);
    check.due("4: operation 4", b.sum(p, 0, 0, 0, 4), 5);
    check.due("4: relation 5", b.compare(p, 0, 0, 5), 6);
    check.due("4: NUMBER looks at a alone", b.machine.add(p, 0, 0, MIN, -1, -1), 7);
    check.due("4: MOVE looks at a, b alone", b.machine.add(p, 1, 0, 0, -1, -1), 8);
    check.due("4: MAKE looks at a, b alone", b.machine.add(p, 2, 0, 0, -1, -1), 9);
    check.due("4: SAME looks at a, b alone", b.machine.add(p, 4, 0, 0, -1, -1), 10);
    check.due("4: COMPARE looks at a, b, c alone", b.machine.add(p, 6, 0, 0, 0, -1), 11);
    check.due("4: GO looks at a alone", b.machine.add(p, 7, 0, -1, -1, -1), 12);
    check.due("4: UNLESS looks at a, b, c alone", b.machine.add(p, 8, 0, 0, 0, -1), 13);
    check.due("4: TRY looks at a alone", b.machine.add(p, 9, 0, -1, -1, -1), 14);
    check.due("4: CALL looks at a alone", b.machine.add(p, 10, 0, -1, -1, -1), 15);
    check.due("4: MARK looks at a alone", b.machine.add(p, 11, 0, -1, -1, -1), 16);
    check.due("4: EXIT looks at none", b.machine.add(p, 14, -1, -1, -1, -1), 17);
    check.due("4: FAIL looks at none", b.machine.add(p, 15, -1, -1, -1, -1), 18);
  }

  private static void addRows() {
    Bench b = new Bench();
    int p = b.again(3, 0);
    for (int kind = 2; kind <= 3; kind++) {
      b.row(0, 1, 2, 0, 1);
      check.due("4: 5 in the row of " + kind, b.machine.add(p, kind, 0, 0, 0, 0), NONE);
      b.row(0, 3);
      check.due("4: no slot in the row of " + kind, b.machine.add(p, kind, 0, 0, 0, 0), NONE);
      b.row(-1);
      check.due("4: -1 in the row of " + kind, b.machine.add(p, kind, 0, 0, 0, 0), NONE);
      b.row(0, 1, 2, 2);
      check.due("4: 4 in the row of " + kind, b.machine.add(p, kind, 0, 0, 0, 0), kind - 2);
    }
    int number = 2;
    for (int kind = 0; kind < 16; kind++) {
      if (kind == 2 || kind == 3 || kind == 10) continue;
      b.row(-1, 99, MIN, 0, 0, 0);
      check.due("4: the row is not looked at by " + kind, b.machine.add(p, kind, 0, 0, 0, 0),
          number++);
    }
  }

  private static void addCall() {
    Bench b = new Bench();
    int p = b.again(3, 0);
    int q = b.again(4, 2, 3, 3);
    check.due("4: CALL -1", b.call(p, -1), NONE);
    check.due("4: CALL 2", b.call(p, 2), NONE);
    check.due("4: CALL MAX", b.call(p, MAX), NONE);
    check.due("4: CALL with too few", b.call(p, q, 0, 1, 2), NONE);
    check.due("4: CALL with too many", b.call(p, q, 0, 1, 2, 0, 1), NONE);
    check.due("4: CALL with a slot of q that p has not", b.call(p, q, 0, 1, 2, 3), NONE);
    check.due("4: CALL with -1", b.call(p, q, -1, 1, 2, 0), NONE);
    check.due("4: CALL", b.call(p, q, 0, 1, 2, 0), 0);
    check.due("4: CALL of itself", b.call(p, p), 1);
  }

  /** What is next is a number: an instruction that comes later is found there. */
  private static void addWhileAtWork() {
    Bench b = new Bench();
    int p = b.again(1, 0, 0);
    b.number(p, 0, 1);
    b.begin(p);
    check.due("4: run of 1", b.machine.run(1), 0);
    b.number(p, 0, 9);
    b.exit(p);
    check.due("4: run on", b.machine.run(10), 1);
    check.due("4: the added one was done", b.text(0), "9");
  }

  private static void begin() {
    Bench b = new Bench();
    int p = b.again(3, 2);
    for (int n : new int[] {-1, 1, MIN, MAX}) check.due("5: procedure " + n, b.begin(n, 1, 2), false);
    check.due("5: too few", b.begin(p, 1), false);
    check.due("5: too many", b.begin(p, 1, 2, 3), false);
    for (int n : new int[] {-1, 20001, MIN, MAX}) {
      check.due("5: stack " + n, b.row(1, 2).machine.begin(p, n, 0), false);
      check.due("5: heap " + n, b.row(1, 2).machine.begin(p, 100, n), false);
    }
    check.due("5: stack 4 for 5", b.row(1, 2).machine.begin(p, 4, 0), false);
    check.due("5: stack 0", b.row(1, 2).machine.begin(p, 0, 0), false);
    check.due("5: nothing begun", b.told(), "-1 0 0 0 0 0 0 0 0");
    check.due("5: stack 5 for 5, heap 0", b.row(MIN, -1).machine.begin(p, 5, 0), true);
    check.due("5: told", b.told(), "0 0 5 5 0 0 0 0 1");
    check.due("5: first argument", b.machine.slot(0), MIN);
    check.due("5: second argument", b.machine.slot(1), -1);
    check.due("5: the other slot", b.machine.slot(2), 0);
    check.due("5: the greatest limits", b.begin(p, 1, 2), true);
  }

  private static void beginAnew() {
    Bench b = new Bench();
    int p = b.again(3, 0, 1);
    b.make(p, 0, 1, 1, 2);
    b.redo(p, 5);
    b.number(p, 1, 8);
    b.exit(p);
    b.fail(p);
    b.number(p, 2, 4);
    b.exit(p);
    b.begin(p);
    check.due("5: a solution", b.machine.run(100), 1);
    check.due("5: told there", b.told(), "1 4 8 8 3 3 1 1 1");
    check.due("5: refused", b.begin(p, 1), false);
    check.due("5: refused begin changes nothing", b.told(), "1 4 8 8 3 3 1 1 1");
    check.due("5: begun anew", b.begin(p), true);
    check.due("5: all is new", b.told(), "0 0 5 5 0 0 0 0 1");
    for (int k = 0; k < 3; k++) check.due("5: slot " + k, b.machine.slot(k), 0);
    check.due("5: tell", b.tell(0), Bench.THROWS);
    check.due("5: the same again", b.solutions(), "8 0 #2");
  }

  private static void run() {
    Bench b = new Bench();
    int p = b.again(1, 0, 0);
    b.redo(p, 3);
    b.number(p, 0, 1);
    b.exit(p);
    b.number(p, 0, 2);
    b.exit(p);
    b.begin(p);
    for (int n : new int[] {0, -1, MIN}) check.due("6: run " + n, b.machine.run(n), 0);
    check.due("6: no step done", b.machine.told(1), 0);
    check.due("6: run 2", b.machine.run(2), 0);
    check.due("6: two done", b.machine.told(1), 2);
    check.due("6: run MAX", b.machine.run(MAX), 1);
    check.due("6: three done", b.machine.told(1), 3);
    check.due("6: run 0 from 1", b.machine.run(0), 1);
    check.due("6: still there", b.text(0), "1");
    check.due("6: from 1 it fails first, then a step", b.machine.run(1), 0);
    check.due("6: four done", b.told(), "0 4 3 6 0 0 1 0 1");
    check.due("6: slot after that step", b.machine.slot(0), 2);
    check.due("6: the second", b.machine.run(1), 1);
    check.due("6: no more", b.machine.run(1), 2);
    check.due("6: no step in failing", b.machine.told(1), 5);
    check.due("6: no more stays", b.machine.run(5), 2);
    check.due("6: nothing done", b.told(), "2 5 3 6 0 0 2 0 1");
    check.due("6: behind the last is FAIL, a step", behindTheLast(), "2 1");
  }

  private static String behindTheLast() {
    Bench b = new Bench();
    int p = b.again(1, 0);
    b.begin(p);
    return b.machine.run(9) + " " + b.machine.told(1);
  }

  private static void fuel() {
    Bench b = new Bench();
    int p = b.again(1, 0);
    b.go(p, 0);
    b.begin(p);
    check.due("6: 20,000 steps", b.machine.run(20000), 0);
    check.due("6: told", b.machine.told(1), 20000);
    check.due("6: slot in 0", b.machine.slot(0), 0);
    check.due("6: one more", b.machine.run(1), 3);
    check.due("6: it was not done", b.machine.told(1), 20000);
    check.due("6: slot in 3", b.machine.slot(0), NONE);
    check.due("6: it stays", b.machine.run(1), 3);
    b.begin(p);
    check.due("6: 20,001 at once", b.machine.run(20001), 3);
    b.begin(p);
    check.due("6: MAX at once", b.machine.run(MAX), 3);
    check.due("6: told", b.machine.told(1), 20000);
    check.due("6: step 20,000 exits", lastStepExits(false), "1 20000 0 2 20000");
    check.due("6: step 20,000 exits, above a redo point", lastStepExits(true), "1 20000 1 3 20000");
  }

  private static String lastStepExits(boolean redo) {
    Bench b = new Bench();
    int p = b.again(4, 1, 3);
    int end = b.loop(p);
    if (redo) b.redo(p, end);
    else b.number(p, 2, 0);
    b.number(p, 2, 0);
    b.exit(p);
    // 9 steps for each turn, 8 ahead of the end, 3 there
    b.begin(p, 2221);
    int first = b.machine.run(MAX);
    return first + " " + b.machine.told(1) + " " + b.machine.told(7) + " " + b.machine.run(1) + " "
        + b.machine.told(1);
  }

  private static void told() {
    Bench b = new Bench();
    int q = b.again(2, 0);
    b.exit(q);
    int p = b.again(1, 0, 0);
    b.make(p, 0, 3, 0);
    b.call(p, q);
    b.redo(p, 7);
    b.make(p, 0, 3, 0, 0);
    b.call(p, q);
    b.exit(p);
    b.fail(p);
    b.exit(p);
    b.begin(p);
    String[] due = {
      "0 1 3 3 2 2 0 0 1", "0 2 7 7 2 2 0 0 2", "0 3 3 7 2 2 0 0 1", "0 4 6 7 2 2 0 1 1",
      "0 5 6 7 5 5 0 1 1", "0 6 10 10 5 5 0 1 2", "0 7 6 10 5 5 0 1 1", "1 8 6 10 5 5 1 1 1",
      "1 9 3 10 2 5 2 0 1", "2 9 3 10 2 5 2 0 1",
    };
    for (int i = 0; i < due.length; i++) {
      b.machine.run(1);
      check.due("7: told after run " + (i + 1), b.told(), due[i]);
    }
    for (int what : new int[] {-1, 9, MIN, MAX}) {
      check.due("7: what " + what, b.machine.told(what), NONE);
    }
    b.begin(p);
    check.due("7: all since begin", b.told(), "0 0 3 3 0 0 0 0 1");
  }

  private static void tell() {
    Bench b = new Bench();
    int p = b.again(5, 1, 0, 1, 2, 3, 3);
    b.number(p, 4, -12);
    b.make(p, 1, 31);
    b.make(p, 2, 10, 4);
    b.make(p, 3, 0, 0, 1, 2, 4);
    b.exit(p);
    b.begin(p, MIN);
    check.due("8: tell in 0", b.tell(0), Bench.THROWS);
    b.machine.run(10);
    check.due("8: the least number", b.text(0), "-2147483648");
    check.due("8: a cell without fields", b.text(1), "c31");
    check.due("8: a cell with one", b.text(2), "c10(-12)");
    check.due("8: a cell with four", b.text(3), "c0(-2147483648,c31,c10(-12),-12)");
    check.due("8: the same slot again", b.text(4), "c0(-2147483648,c31,c10(-12),-12)");
    b.tell(1);
    for (int k : new int[] {-1, 5, MIN, MAX}) check.due("8: OUT " + k, b.tell(k), Bench.THROWS);
    check.due("8: OUT stays", b.out(), "c31");
    b.machine.run(1);
    check.due("8: tell in 2", b.tell(1), Bench.THROWS);
    check.due("8: OUT stays", b.out(), "c31");
    b.begin(p, MAX);
    check.due("8: OUT stays in begin", b.out(), "c31");
    b.machine.run(10);
    check.due("8: the greatest number", b.text(0), "2147483647");
    b.begin(p, 0);
    b.machine.run(10);
    check.due("8: zero", b.text(0), "0");
  }

  private static void tellIsCut() {
    Bench b = new Bench();
    int p = b.again(2, 1, 1, 0);
    b.move(p, 1, 0);
    for (int i = 0; i < 400; i++) b.make(p, 1, i % 2 == 0 ? 7 : 12, 1);
    b.exit(p);
    b.begin(p, -45);
    check.due("8: a deep cell", b.machine.run(1000), 1);
    StringBuilder deep = new StringBuilder();
    for (int i = 399; i >= 0; i--) deep.append(i % 2 == 0 ? "c7(" : "c12(");
    check.due("8: its first 1000", b.text(0), deep.substring(0, 1000));
    check.due("8: a short one behind it", b.text(1), "-45");

    for (int n = 1; n < 5; n++) check.due("8: cut, " + n, cutText(n), wholeText(n));
  }

  private static String wholeText(int n) {
    String part = "c0(11,11,11,11)";
    for (int i = 0; i < 3; i++) part = "c0(" + part + "," + part + "," + part + "," + part + ")";
    String whole = "c0(" + "1".repeat(n) + "," + part + ")";
    return whole.substring(0, Math.min(1000, whole.length()));
  }

  /** wholeText(n), made by the machine. */
  private static String cutText(int n) {
    Bench b = new Bench();
    int p = b.again(2, 2, 0);
    for (int i = 0; i < 4; i++) b.make(p, 1, 0, 1, 1, 1, 1);
    b.make(p, 0, 0, 0, 1);
    b.exit(p);
    b.begin(p, Integer.parseInt("1".repeat(n)), 11);
    b.machine.run(100);
    return b.text(0);
  }

  private static void letter() {
    Bench b = new Bench();
    int p = b.again(2, 1, 0, 1);
    b.redo(p, 1);
    b.exit(p);
    b.begin(p, -7);
    b.machine.run(10);
    check.due("9: before tell", b.machine.letter(0), NONE);
    check.due("9: tell", b.machine.tell(0), 2);
    check.due("9: letter 0", b.machine.letter(0), '-');
    check.due("9: letter 1", b.machine.letter(1), '7');
    for (int i : new int[] {2, -1, 1000, MIN, MAX}) {
      check.due("9: letter " + i, b.machine.letter(i), NONE);
    }
    check.due("9: a shorter OUT", b.machine.tell(1), 1);
    check.due("9: letter 0", b.machine.letter(0), '0');
    check.due("9: letter 1 is gone", b.machine.letter(1), NONE);
  }

  private static void slot() {
    Bench b = new Bench();
    int q = b.again(3, 1, 2);
    b.make(q, 2, 31, 0, 1);
    b.exit(q);
    int p = b.again(2, 1, 0);
    b.call(p, q, 0, 1);
    b.exit(p);
    b.begin(p, -1);
    check.due("10: the number -1", b.machine.slot(0), -1);
    check.due("10: the number 0", b.machine.slot(1), 0);
    for (int k : new int[] {-1, 2, MIN, MAX}) check.due("10: slot " + k, b.machine.slot(k), NONE);
    b.machine.run(1);
    check.due("10: the called frame's", b.machine.slot(2), 0);
    b.machine.run(1);
    check.due("10: a cell", b.machine.slot(2), (1L << 40) + 31);
    check.due("10: no slot 3", b.machine.slot(3), NONE);
    b.machine.run(1);
    check.due("10: back in the caller", b.machine.slot(1), (1L << 40) + 31);
    check.due("10: no slot 2", b.machine.slot(2), NONE);
    check.due("10: state 1", b.machine.run(1), 1);
    check.due("10: in state 1", b.machine.slot(1), (1L << 40) + 31);
    check.due("10: state 2", b.machine.run(1), 2);
    check.due("10: in state 2", b.machine.slot(1), NONE);
    b.row(MIN).machine.begin(p, 5, 0);
    check.due("10: the least number", b.machine.slot(0), MIN);
    check.due("10: state 4", b.machine.run(1), 4);
    check.due("10: in state 4", b.machine.slot(0), NONE);
    b.row(MIN).machine.begin(p, 50, 2);
    check.due("10: state 5", b.machine.run(2), 5);
    check.due("10: in state 5", b.machine.slot(0), NONE);
  }
}
