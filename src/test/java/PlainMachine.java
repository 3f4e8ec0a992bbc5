import java.util.ArrayList;
import java.util.List;
import java.util.NoSuchElementException;

/**
 * A second writing of the document, for comparison: one list is the stack, values are objects, and
 * each redo point keeps a copy of all slots. Slow and wasteful, but close to the document's words.
 */
final class PlainMachine {
  private static final class Cell {
    int tag;
    Object[] fields;
  }

  private static final class Code {
    int kind;
    int[] arg;
    List<Integer> row;
  }

  private static final class Proc {
    boolean again;
    int slots;
    int ins;
    List<Integer> outs;
    List<Code> codes = new ArrayList<>();
  }

  private static final class Frame {
    Proc proc;
    Object[] slots;
    int next;
    Frame caller;
    int callAt;
    int redosAtCall;
  }

  private static final class Redo {
    Frame frame;
    int to;
    boolean dead;
    List<Frame> framesThen = new ArrayList<>();
    List<Object[]> slotsThen = new ArrayList<>();
    int heapThen;
  }

  private List<Integer> row = new ArrayList<>();
  private final List<Proc> procs = new ArrayList<>();
  private int codes = 0;
  private String out = "";
  private final List<Object> stack = new ArrayList<>();
  private Frame work;
  private int state = -1;
  private int steps;
  private int solutions;
  private int heap;
  private int mostHeap;
  private int mostSize;
  private int stackLimit;
  private int heapLimit;

  boolean put(int n) {
    return row.size() < 10 && row.add(n);
  }

  private List<Integer> taken() {
    List<Integer> now = row;
    row = new ArrayList<>();
    return now;
  }

  int procedure(boolean again, int slots, int ins) {
    List<Integer> outs = taken();
    if (procs.size() == 60 || slots < 1 || slots > 40 || ins < 0 || ins > slots) return -1;
    if (outs.size() > 8 || ins + outs.size() > 10) return -1;
    for (int o : outs) if (o < 0 || o >= slots) return -1;
    Proc p = new Proc();
    p.again = again;
    p.slots = slots;
    p.ins = ins;
    p.outs = outs;
    procs.add(p);
    return procs.size() - 1;
  }

  /** What an instruction's arguments are: s a slot, t a TAG, n any number, o, r, j (to), p. */
  private static final String[] SHAPES = {
    "sn", "ss", "st", "st", "ss", "ssso", "ssr", "j", "stj", "j", "p", "s", "s", "s", "", "",
  };

  int add(int procedure, int kind, int a, int b, int c, int d) {
    List<Integer> now = taken();
    if (codes == 2000 || procedure < 0 || procedure >= procs.size()) return -1;
    if (kind < 0 || kind > 15) return -1;
    Proc p = procs.get(procedure);
    int[] arg = {a, b, c, d};
    String shape = SHAPES[kind];
    for (int i = 0; i < shape.length(); i++) {
      int most = switch (shape.charAt(i)) {
        case 's' -> p.slots;
        case 't' -> 32;
        case 'o' -> 5;
        case 'r' -> 6;
        case 'j' -> 2000;
        case 'p' -> procs.size();
        default -> -1;
      };
      if (most >= 0 && (arg[i] < 0 || arg[i] >= most)) return -1;
    }
    if (kind == 2 || kind == 3 || kind == 10) {
      for (int s : now) if (s < 0 || s >= p.slots) return -1;
      if (kind != 10 && now.size() > 4) return -1;
      if (kind == 10 && now.size() != procs.get(a).ins + procs.get(a).outs.size()) return -1;
    }
    Code code = new Code();
    code.kind = kind;
    code.arg = arg;
    code.row = now;
    p.codes.add(code);
    codes++;
    return p.codes.size() - 1;
  }

  boolean begin(int procedure, int stackMost, int heapMost) {
    List<Integer> now = taken();
    if (procedure < 0 || procedure >= procs.size()) return false;
    Proc p = procs.get(procedure);
    if (now.size() != p.ins) return false;
    if (stackMost < 0 || stackMost > 20000 || heapMost < 0 || heapMost > 20000) return false;
    if (p.slots + 2 > stackMost) return false;
    stack.clear();
    stackLimit = stackMost;
    heapLimit = heapMost;
    heap = mostHeap = mostSize = steps = solutions = state = 0;
    work = newFrame(p);
    for (int i = 0; i < now.size(); i++) work.slots[i] = now.get(i);
    come(work);
    return true;
  }

  private Frame newFrame(Proc p) {
    Frame f = new Frame();
    f.proc = p;
    f.slots = new Object[p.slots];
    for (int i = 0; i < p.slots; i++) f.slots[i] = 0;
    f.redosAtCall = redos();
    return f;
  }

  private void come(Object item) {
    stack.add(item);
    mostSize = Math.max(mostSize, size());
  }

  private static int sizeOf(Object item) {
    return item instanceof Frame f ? f.proc.slots + 2 : 3;
  }

  private int size() {
    int sum = 0;
    for (Object item : stack) sum += sizeOf(item);
    return sum;
  }

  private int redos() {
    int count = 0;
    for (Object item : stack) if (item instanceof Redo) count++;
    return count;
  }

  int run(int n) {
    if (n < 1 || (state != 0 && state != 1)) return state;
    if (state == 1) fail();
    for (int done = 0; state == 0 && done < n; done++) {
      if (steps == 20000) {
        state = 3;
      } else {
        steps++;
        step();
      }
    }
    return state;
  }

  private void step() {
    int at = work.next;
    if (at >= work.proc.codes.size()) {
      fail();
      return;
    }
    Code code = work.proc.codes.get(at);
    work.next = at + 1;
    int a = code.arg[0];
    int b = code.arg[1];
    Object[] slots = work.slots;
    switch (code.kind) {
      case 0 -> slots[a] = b;
      case 1 -> slots[a] = slots[b];
      case 2 -> make(code);
      case 3 -> take(code);
      case 4 -> same(slots[a], slots[b]);
      case 5 -> sum(code);
      case 6 -> compare(code);
      case 7 -> work.next = a;
      case 8 -> {
        if (!(slots[a] instanceof Cell cell) || cell.tag != b) work.next = code.arg[2];
      }
      case 9 -> redo(a);
      case 10 -> call(code, at);
      case 11 -> slots[a] = redos();
      case 12 -> {
        if (slots[a] instanceof Integer n) cut(n);
        else state = 6;
      }
      case 13 -> {
        if (slots[a] instanceof Integer n) drop(n);
        else state = 6;
      }
      case 14 -> exit();
      default -> fail();
    }
  }

  private void make(Code code) {
    int count = code.row.size();
    int cost = count == 0 ? 0 : count + 1;
    if (heap + cost > heapLimit) {
      if (cost > 0) {
        state = 5;
        return;
      }
    }
    heap += cost;
    mostHeap = Math.max(mostHeap, heap);
    Cell cell = new Cell();
    cell.tag = code.arg[1];
    cell.fields = new Object[count];
    for (int i = 0; i < count; i++) cell.fields[i] = work.slots[code.row.get(i)];
    work.slots[code.arg[0]] = cell;
  }

  private void take(Code code) {
    if (work.slots[code.arg[0]] instanceof Cell cell
        && cell.tag == code.arg[1] && cell.fields.length == code.row.size()) {
      for (int i = 0; i < cell.fields.length; i++) work.slots[code.row.get(i)] = cell.fields[i];
    } else {
      fail();
    }
  }

  private int looked;

  private void same(Object left, Object right) {
    looked = 0;
    int found = look(left, right);
    if (found == 1) fail();
    if (found == 2) state = 6;
  }

  /** 0 the same, 1 they differ, 2 too many pairs. */
  private int look(Object left, Object right) {
    if (looked == 5000) return 2;
    looked++;
    if (left instanceof Integer x && right instanceof Integer y) return x.equals(y) ? 0 : 1;
    if (!(left instanceof Cell l) || !(right instanceof Cell r)) return 1;
    if (l.tag != r.tag || l.fields.length != r.fields.length) return 1;
    for (int i = 0; i < l.fields.length; i++) {
      int found = look(l.fields[i], r.fields[i]);
      if (found != 0) return found;
    }
    return 0;
  }

  private void sum(Code code) {
    Object left = work.slots[code.arg[1]];
    Object right = work.slots[code.arg[2]];
    if (!(left instanceof Integer x) || !(right instanceof Integer y)) {
      state = 6;
      return;
    }
    int operation = code.arg[3];
    if (operation >= 3 && y == 0) {
      fail();
      return;
    }
    long exact = switch (operation) {
      case 0 -> (long) x + y;
      case 1 -> (long) x - y;
      case 2 -> (long) x * y;
      case 3 -> (long) x / y;
      default -> (long) x % y;
    };
    work.slots[code.arg[0]] = (int) exact;
  }

  private void compare(Code code) {
    Object left = work.slots[code.arg[0]];
    Object right = work.slots[code.arg[1]];
    if (!(left instanceof Integer x) || !(right instanceof Integer y)) {
      state = 6;
      return;
    }
    int order = Integer.compare(x, y);
    boolean holds = switch (code.arg[2]) {
      case 0 -> order < 0;
      case 1 -> order <= 0;
      case 2 -> order > 0;
      case 3 -> order >= 0;
      case 4 -> order == 0;
      default -> order != 0;
    };
    if (!holds) fail();
  }

  private void redo(int to) {
    if (size() + 3 > stackLimit) {
      state = 4;
      return;
    }
    Redo redo = new Redo();
    redo.frame = work;
    redo.to = to;
    redo.heapThen = heap;
    for (Object item : stack) {
      if (item instanceof Frame f) {
        redo.framesThen.add(f);
        redo.slotsThen.add(f.slots.clone());
      }
    }
    come(redo);
  }

  private void call(Code code, int at) {
    Proc p = procs.get(code.arg[0]);
    if (size() + p.slots + 2 > stackLimit) {
      state = 4;
      return;
    }
    Frame f = newFrame(p);
    f.caller = work;
    f.callAt = at;
    for (int i = 0; i < p.ins; i++) f.slots[i] = work.slots[code.row.get(i)];
    come(f);
    work = f;
  }

  private void cut(int n) {
    int seen = 0;
    for (int i = 0; i < stack.size(); ) {
      if (stack.get(i) instanceof Redo && seen++ >= n) stack.remove(i);
      else i++;
    }
    for (int i = stack.size() - 1; i >= 0; i--) {
      Object top = stack.get(i);
      if (top == work || top instanceof Redo) break;
      stack.remove(i);
    }
  }

  private void drop(int n) {
    int seen = 0;
    for (Object item : stack) if (item instanceof Redo r && seen++ == n) r.dead = true;
  }

  private void exit() {
    if (!work.proc.again) cut(work.redosAtCall);
    Frame caller = work.caller;
    if (caller == null) {
      state = 1;
      solutions++;
      return;
    }
    List<Integer> to = caller.proc.codes.get(work.callAt).row;
    for (int i = 0; i < work.proc.outs.size(); i++) {
      caller.slots[to.get(work.proc.ins + i)] = work.slots[work.proc.outs.get(i)];
    }
    if (stack.get(stack.size() - 1) == work) stack.remove(stack.size() - 1);
    caller.next = work.callAt + 1;
    work = caller;
  }

  private void fail() {
    while (true) {
      int last = stack.size() - 1;
      while (last >= 0 && !(stack.get(last) instanceof Redo)) last--;
      if (last < 0) {
        state = 2;
        return;
      }
      Redo redo = (Redo) stack.get(last);
      while (stack.size() > last) stack.remove(stack.size() - 1);
      if (redo.dead) continue;
      for (int i = 0; i < redo.framesThen.size(); i++) {
        redo.framesThen.get(i).slots = redo.slotsThen.get(i);
      }
      heap = redo.heapThen;
      work = redo.frame;
      work.next = redo.to;
      state = 0;
      return;
    }
  }

  int told(int what) {
    return switch (what) {
      case 0 -> state;
      case 1 -> steps;
      case 2 -> size();
      case 3 -> mostSize;
      case 4 -> heap;
      case 5 -> mostHeap;
      case 6 -> solutions;
      case 7 -> redos();
      case 8 -> stack.size() - redos();
      default -> -1;
    };
  }

  int tell(int k) {
    if (state != 1 || k < 0 || k >= work.proc.outs.size()) throw new NoSuchElementException();
    StringBuilder text = new StringBuilder();
    write(work.slots[work.proc.outs.get(k)], text);
    out = text.substring(0, Math.min(1000, text.length()));
    return out.length();
  }

  private static void write(Object value, StringBuilder text) {
    if (text.length() > 1000) return;
    if (!(value instanceof Cell cell)) {
      text.append(value);
      return;
    }
    text.append('c').append(cell.tag);
    for (int i = 0; i < cell.fields.length; i++) {
      text.append(i == 0 ? '(' : ',');
      write(cell.fields[i], text);
    }
    if (cell.fields.length > 0) text.append(')');
  }

  int letter(int i) {
    return i >= 0 && i < out.length() ? out.charAt(i) : -1;
  }

  long slot(int k) {
    if ((state != 0 && state != 1) || k < 0 || k >= work.slots.length) return -1;
    return work.slots[k] instanceof Cell cell ? (1L << 40) + cell.tag : (Integer) work.slots[k];
  }
}
