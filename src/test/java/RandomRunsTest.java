import java.util.NoSuchElementException;

/** Random calls, from fixed seeds, on RedoMachine and PlainMachine: all answers must agree. */
public final class RandomRunsTest {
  private static final int RUNS = 20000;

  private long seed;
  private final RedoMachine tested = new RedoMachine();
  private final PlainMachine plain = new PlainMachine();
  private final Check check;
  private final String name;
  private int calls = 0;
  private final int[] slotsOf = new int[60];
  private final int[] insOf = new int[60];
  private final int[] outsOf = new int[60];
  private int procedures = 0;
  private final boolean smooth;

  private static final long[] reached = new long[8];

  private RandomRunsTest(int run, Check check) {
    this.seed = run * 7919L + 17;
    this.name = "run " + run;
    this.check = check;
    this.smooth = run % 2 == 0;
  }

  private int below(int bound) {
    seed = seed * 6364136223846793005L + 1442695040888963407L;
    return (int) ((seed >>> 33) % bound);
  }

  private int wild() {
    int[] edges = {-1, 0, 1, 2, 4, 8, 10, 31, 32, 40, 41, 60, 1999, 2000, 20000, 20001,
      Integer.MIN_VALUE, Integer.MAX_VALUE};
    return edges[below(edges.length)];
  }

  /** Mostly what fits, at times what does not. */
  private int mostly(int bound) {
    return below(150) == 0 ? wild() : below(Math.max(1, bound));
  }

  /** Every call on the tested machine comes through here: behind the 512th all is free. */
  private void same(String call, long got, long want) {
    calls++;
    if (calls <= Bench.MOST_CALLS) check.due(name + " call " + calls + " " + call, got, want);
  }

  private void put(int n) {
    same("put(" + n + ")", tested.put(n) ? 1 : 0, plain.put(n) ? 1 : 0);
  }

  private void putSlots(int count, int slots) {
    for (int i = 0; i < count; i++) put(mostly(slots));
  }

  private void newProcedure() {
    int slots = 1 + below(below(8) == 0 ? 40 : 6);
    int ins = below(Math.min(slots, 3) + 1);
    int outs = below(4);
    if (below(30) == 0) outs = below(11);
    boolean again = below(3) > 0;
    if (below(40) == 0) slots = wild();
    if (below(40) == 0) ins = wild();
    putSlots(outs, slots);
    int number = tested.procedure(again, slots, ins);
    same("procedure(" + again + ", " + slots + ", " + ins + ")", number,
        plain.procedure(again, slots, ins));
    if (number >= 0) {
      slotsOf[number] = slots;
      insOf[number] = ins;
      outsOf[number] = outs;
      procedures = number + 1;
    }
  }

  private static final int[] KINDS = {
    0, 0, 0, 1, 2, 2, 3, 3, 4, 5, 5, 6, 7, 8, 9, 9, 9, 9, 10, 10, 10, 10, 11, 11, 12, 13, 14, 14,
    14, 15,
  };
  /** Those that mostly go on to the next, so that much comes onto the stack. */
  private static final int[] SMOOTH_KINDS = {
    0, 0, 1, 2, 9, 9, 9, 10, 10, 10, 11, 11, 12, 12, 13, 14,
  };

  private void newInstruction() {
    int[] kinds = smooth ? SMOOTH_KINDS : KINDS;
    newInstruction(mostly(procedures), below(100) == 0 ? wild() : kinds[below(kinds.length)]);
  }

  private void newInstruction(int p, int kind) {
    int slots = p >= 0 && p < procedures ? slotsOf[p] : 3;
    int[] arg = {mostly(slots), mostly(slots), mostly(slots), mostly(5)};
    if (kind == 0 && below(10) == 0) arg[1] = wild();
    if (kind == 2 || kind == 3) {
      arg[1] = mostly(2);
      putSlots(below(20) == 0 ? below(6) : below(3), slots);
    }
    if (smooth && kind >= 11 && kind <= 13 && below(4) > 0) arg[0] = slots - 1;
    if (kind == 6) arg[2] = mostly(6);
    if (kind == 7 || kind == 9) arg[0] = mostly(8);
    if (kind == 8) {
      arg[1] = mostly(2);
      arg[2] = mostly(8);
    }
    if (kind == 10) {
      arg[0] = mostly(procedures);
      int row = arg[0] >= 0 && arg[0] < procedures ? insOf[arg[0]] + outsOf[arg[0]] : 2;
      putSlots(below(40) == 0 ? below(11) : row, slots);
    }
    same("add(" + p + ", " + kind + ", " + arg[0] + ", " + arg[1] + ", " + arg[2] + ", " + arg[3]
        + ")", tested.add(p, kind, arg[0], arg[1], arg[2], arg[3]),
        plain.add(p, kind, arg[0], arg[1], arg[2], arg[3]));
  }

  private void begin() {
    int p = mostly(procedures);
    if (p >= 0 && p < procedures) {
      int ins = below(30) == 0 ? below(11) : insOf[p];
      for (int i = 0; i < ins; i++) put(below(5) - 2);
    }
    int stack = below(4) == 0 ? below(60) : 60 + below(240);
    int heap = below(4) == 0 ? below(12) : below(200);
    if (below(40) == 0) stack = wild() % 20001;
    if (below(40) == 0) heap = wild();
    same("begin(" + p + ", " + stack + ", " + heap + ")", tested.begin(p, stack, heap) ? 1 : 0,
        plain.begin(p, stack, heap) ? 1 : 0);
  }

  private void run() {
    int n = below(3) == 0 ? 1 + below(4) : below(60);
    if (below(30) == 0) n = 1000;
    if (below(100) == 0) n = 19990 + below(20);
    if (below(60) == 0) n = -below(3);
    int state = tested.run(n);
    same("run(" + n + ")", state, plain.run(n));
    if (state >= 0) reached[state]++;
    look();
  }

  private void told(int what) {
    same("told(" + what + ")", tested.told(what), plain.told(what));
  }

  private void slot(int k) {
    same("slot(" + k + ")", tested.slot(k), plain.slot(k));
  }

  private void letter(int i) {
    same("letter(" + i + ")", tested.letter(i), plain.letter(i));
  }

  /** Much is looked at in every fourth place, a little in the others. */
  private void look() {
    if (below(4) == 0) {
      for (int what = 1; what < 9; what++) told(what);
      for (int k = 0; k < 4; k++) slot(k);
      tell(below(4) - (below(10) == 0 ? 1 : 0));
    } else {
      told(below(20) == 0 ? wild() : 2 + below(7));
      slot(below(20) == 0 ? wild() : below(5));
    }
  }

  private void tell(int k) {
    long got;
    long want;
    try {
      got = tested.tell(k);
    } catch (NoSuchElementException e) {
      got = Bench.THROWS;
    }
    try {
      want = plain.tell(k);
    } catch (NoSuchElementException e) {
      want = Bench.THROWS;
    }
    same("tell(" + k + ")", got, want);
    for (int i = 0; i < want; i += 1 + below(6)) letter(i);
    if (want >= 0) letter((int) want);
  }

  private void go() {
    int firstProcedures = 1 + below(5);
    for (int i = 0; i < firstProcedures; i++) newProcedure();
    int instructions = procedures * (2 + below(12));
    for (int i = 0; i < instructions; i++) newInstruction();
    for (int i = 0; smooth && i < procedures; i++) newInstruction(i, 14);
    while (calls < Bench.MOST_CALLS && check.wrong() == 0) {
      int choice = below(60);
      boolean over = plain.told(0) != 0 && plain.told(0) != 1;
      if (choice < 3 || over && choice < 45) begin();
      else if (choice < 6) newProcedure();
      else if (choice < 9) newInstruction();
      else if (choice < 10) put(wild());
      else run();
    }
  }

  public static void main(String[] args) {
    Check check = new Check("random runs");
    for (int run = 0; run < RUNS && check.wrong() == 0; run++) new RandomRunsTest(run, check).go();
    StringBuilder states = new StringBuilder("states reached:");
    for (int state = 0; state < 7; state++) {
      states.append(' ').append(state).append('=').append(reached[state]);
      check.due("state " + state + " was reached", reached[state] > 0, true);
    }
    System.out.println(states);
    check.end();
  }
}
