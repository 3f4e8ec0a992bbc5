import java.util.ArrayList;
import java.util.Arrays;
import java.util.NoSuchElementException;

/**
 * A machine for logic programs whose procedures may succeed again: frames and redo points on one
 * stack with a limit, cells on a heap with a limit, steps with fuel; what fails goes back to the
 * latest redo point with all as it was then.
 */
public final class RedoMachine {
    public static final int NONE = -1;

    private static final int ROW_MOST = 10;
    private static final int PROCEDURES_MOST = 60;
    private static final int INSTRUCTIONS_MOST = 2000;
    private static final int SLOTS_MOST = 40;
    private static final int OUTS_MOST = 8;
    private static final int FIELDS_MOST = 4;
    private static final int TAGS = 32;
    private static final int LIMIT_MOST = 20000;
    private static final int FUEL = 20000;
    private static final int PAIRS_MOST = 5000;
    private static final int OUT_MOST = 1000;
    private static final int FRAME_EXTRA = 2;
    private static final int REDO_SIZE = 3;

    private static final int NUMBER = 0;
    private static final int MOVE = 1;
    private static final int MAKE = 2;
    private static final int TAKE = 3;
    private static final int SAME = 4;
    private static final int SUM = 5;
    private static final int COMPARE = 6;
    private static final int GO = 7;
    private static final int UNLESS = 8;
    private static final int TRY = 9;
    private static final int CALL = 10;
    private static final int MARK = 11;
    private static final int CUT = 12;
    private static final int DROP = 13;
    private static final int EXIT = 14;
    private static final int FAIL = 15;

    private static final int READY = 0;
    private static final int SOLUTION = 1;
    private static final int NO_MORE = 2;
    private static final int OUT_OF_FUEL = 3;
    private static final int STACK_FULL = 4;
    private static final int HEAP_FULL = 5;
    private static final int WRONG = 6;
    /** No STATE: what a STEP answers that is to FAIL. */
    private static final int FAILED = 7;

    private static final int PLUS = 0;
    private static final int MINUS = 1;
    private static final int TIMES = 2;
    private static final int QUOTIENT = 3;
    private static final int REST = 4;

    private static final int LESS = 0;
    private static final int AT_MOST = 1;
    private static final int MORE = 2;
    private static final int AT_LEAST = 3;
    private static final int EQUAL = 4;
    private static final int UNEQUAL = 5;

    private final int[] row = new int[ROW_MOST];
    private int rowCount;
    private final ArrayList<Procedure> procedures = new ArrayList<>();
    private int instructionCount;
    private final Engine engine = new Engine();
    private final Text out = new Text();

    public RedoMachine() {
    }

    public boolean put(int n) {
        if (rowCount < 0 || rowCount >= row.length) {
            return false;
        }
        row[rowCount] = n;
        rowCount++;
        return true;
    }

    public int procedure(boolean again, int slots, int ins) {
        int[] outs = takeRow();
        if (procedures.size() >= PROCEDURES_MOST || !Procedure.fits(slots, ins, outs)) {
            return NONE;
        }
        procedures.add(new Procedure(again, slots, ins, outs));
        return procedures.size() - 1;
    }

    public int add(int procedure, int instruction, int a, int b, int c, int d) {
        Instruction added = new Instruction(instruction, a, b, c, d, takeRow());
        if (instruction == CALL) {
            added.callee = procedureAt(a);
        }
        Procedure owner = procedureAt(procedure);
        if (owner == null || instructionCount >= INSTRUCTIONS_MOST || !owner.admits(added)) {
            return NONE;
        }
        instructionCount++;
        return owner.append(added);
    }

    public boolean begin(int procedure, int stack, int heap) {
        int[] arguments = takeRow();
        Procedure begun = procedureAt(procedure);
        if (begun == null || arguments.length != begun.ins || !isLimit(stack) || !isLimit(heap)
                || begun.frameSize() > stack) {
            return false;
        }
        engine.start(begun, arguments, stack, heap);
        return true;
    }

    public int run(int n) {
        return engine.advance(n);
    }

    public int told(int what) {
        return engine.figure(what);
    }

    public int tell(int k) throws NoSuchElementException {
        if (!engine.hasOut(k)) {
            throw new NoSuchElementException("no such OUT of a SOLUTION");
        }
        return out.write(engine.outValue(k), engine.heap);
    }

    public int letter(int i) {
        return out.characterAt(i);
    }

    public long slot(int k) {
        return engine.slotSeen(k);
    }

    private int[] takeRow() {
        int[] taken = Arrays.copyOf(row, Math.max(rowCount, 0));
        rowCount = 0;
        return taken;
    }

    private Procedure procedureAt(int number) {
        return within(number, procedures.size()) ? procedures.get(number) : null;
    }

    private static boolean within(int n, int bound) {
        return n >= 0 && n < bound;
    }

    private static boolean isLimit(int n) {
        return n >= 0 && n <= LIMIT_MOST;
    }

    /** A row of longs that keeps its room when it shrinks, so that later runs use it again. */
    private static final class LongRow {
        private static final int FIRST_ROOM = 32;
        private static final int MOST_ROOM = 1 << 20;

        private long[] items = new long[FIRST_ROOM];
        private int size;

        int size() {
            return size;
        }

        long at(int i) {
            return within(i, size) && i < items.length ? items[i] : 0;
        }

        void set(int i, long value) {
            if (within(i, size) && i < items.length) {
                items[i] = value;
            }
        }

        void push(long value) {
            if (size >= items.length && items.length < MOST_ROOM) {
                items = Arrays.copyOf(items, items.length * 2);
            }
            if (within(size, items.length)) {
                items[size] = value;
                size++;
            }
        }

        long pop() {
            long last = at(size - 1);
            shrink(size - 1);
            return last;
        }

        void shrink(int kept) {
            if (within(kept, size)) {
                size = kept;
            }
        }
    }

    /**
     * A VALUE is one long, so that a row of longs holds it: a NUMBER is itself; a CELL is beyond
     * all ints and tells its TAG, how many FIELDS it has and where on the HEAP they lie.
     */
    private static final class Value {
        private static final long CELL_MARK = 1L << 40;
        private static final int SHAPE_MASK = 255;

        static long cell(int tag, int fields, int place) {
            return CELL_MARK | (long) place << 8 | fields << 5 | tag;
        }

        static boolean isCell(long value) {
            return value >= CELL_MARK;
        }

        static int tag(long cell) {
            return (int) (cell & 31);
        }

        static int fields(long cell) {
            return (int) (cell >> 5 & 7);
        }

        static int place(long cell) {
            return (int) (cell >> 8 & 0xFFFF);
        }

        static boolean hasTag(long value, int tag) {
            return isCell(value) && tag(value) == tag;
        }

        /** Whether two VALUES differ before their FIELDS are looked at. */
        static boolean differ(long left, long right) {
            if (isCell(left) && isCell(right)) {
                return (left & SHAPE_MASK) != (right & SHAPE_MASK);
            }
            return left != right;
        }

        static long shown(long value) {
            return isCell(value) ? CELL_MARK + tag(value) : value;
        }
    }

    private static final class Instruction {
        final int kind;
        final int a;
        final int b;
        final int c;
        final int d;
        final int[] row;
        /** Of a CALL alone. */
        Procedure callee;

        Instruction(int kind, int a, int b, int c, int d, int[] row) {
            this.kind = kind;
            this.a = a;
            this.b = b;
            this.c = c;
            this.d = d;
            this.row = row;
        }
    }

    private static final class Procedure {
        final boolean again;
        final int slots;
        final int ins;
        final int[] outs;
        private final ArrayList<Instruction> instructions = new ArrayList<>();

        Procedure(boolean again, int slots, int ins, int[] outs) {
            this.again = again;
            this.slots = slots;
            this.ins = ins;
            this.outs = outs;
        }

        static boolean fits(int slots, int ins, int[] outs) {
            return slots >= 1 && slots <= SLOTS_MOST && ins >= 0 && ins <= slots
                    && outs.length <= OUTS_MOST && ins + outs.length <= ROW_MOST
                    && allWithin(outs, slots);
        }

        private static boolean allWithin(int[] numbers, int bound) {
            for (int number : numbers) {
                if (!within(number, bound)) {
                    return false;
                }
            }
            return true;
        }

        int frameSize() {
            return FRAME_EXTRA + slots;
        }

        int append(Instruction added) {
            instructions.add(added);
            return instructions.size() - 1;
        }

        Instruction instructionAt(int number) {
            return within(number, instructions.size()) ? instructions.get(number) : null;
        }

        boolean admits(Instruction i) {
            switch (i.kind) {
                case NUMBER:
                case MARK:
                case CUT:
                case DROP:
                    return hasSlot(i.a);
                case MOVE:
                case SAME:
                    return hasSlot(i.a) && hasSlot(i.b);
                case MAKE:
                case TAKE:
                    return hasSlot(i.a) && within(i.b, TAGS)
                            && i.row.length <= FIELDS_MOST && allWithin(i.row, slots);
                case SUM:
                    return hasSlot(i.a) && hasSlot(i.b) && hasSlot(i.c)
                            && within(i.d, REST + 1);
                case COMPARE:
                    return hasSlot(i.a) && hasSlot(i.b) && within(i.c, UNEQUAL + 1);
                case GO:
                case TRY:
                    return within(i.a, INSTRUCTIONS_MOST);
                case UNLESS:
                    return hasSlot(i.a) && within(i.b, TAGS) && within(i.c, INSTRUCTIONS_MOST);
                case CALL:
                    return admitsCall(i);
                case EXIT:
                case FAIL:
                    return true;
                default:
                    return false;
            }
        }

        private boolean admitsCall(Instruction i) {
            Procedure callee = i.callee;
            return callee != null && i.row.length == callee.ins + callee.outs.length
                    && allWithin(i.row, slots);
        }

        private boolean hasSlot(int number) {
            return within(number, slots);
        }
    }

    private static final class Frame {
        /** How many FRAMES lie below it. */
        final int number;
        Procedure procedure;
        /** Where its SLOTS start among the VALUES of all FRAMES. */
        int base;
        /** The FRAME of its CALL; null for the first one. */
        Frame caller;
        Instruction call;
        /** The INSTRUCTION behind its CALL. */
        int back;
        int redosAtCall;

        Frame(int number, Procedure procedure) {
            this.number = number;
            this.procedure = procedure;
        }
    }

    private static final class Redo {
        Frame frame;
        int instruction;
        boolean dead;
        int framesBelow;
        int valuesBelow;
        int trailBelow;
        int heapThen;

        Redo(Frame frame) {
            this.frame = frame;
        }
    }

    /**
     * FRAMES go only from the top, and so do REDO points: two rows tell the whole order, as each
     * REDO point knows how many FRAMES lie below it.
     */
    private static final class Stack {
        private static final int PLACE_BITS = 16;
        private static final int PLACE_MASK = 0xFFFF;

        private final ArrayList<Frame> frames = new ArrayList<>();
        int frameCount;
        private final ArrayList<Redo> redos = new ArrayList<>();
        int redoCount;
        private final LongRow values = new LongRow();
        /**
         * For going back: what changed SLOTS held, and in the low bits their places, as one long
         * for both takes half the room (a VALUE has 42 bits at most, a place 15).
         */
        private final LongRow trail = new LongRow();
        private int limit;
        int greatest;

        void clear(int newLimit) {
            frameCount = 0;
            redoCount = 0;
            values.shrink(0);
            trail.shrink(0);
            limit = newLimit;
            greatest = 0;
        }

        int size() {
            return values.size() + FRAME_EXTRA * frameCount + REDO_SIZE * redoCount;
        }

        boolean hasRoom(int more) {
            return size() + more <= limit;
        }

        private void noteSize() {
            greatest = Math.max(greatest, size());
        }

        Frame pushFrame(Procedure procedure) {
            Frame frame;
            if (within(frameCount, frames.size())) {
                frame = frames.get(frameCount);
            } else {
                frame = new Frame(frameCount, procedure);
                frames.add(frame);
            }
            frameCount++;
            frame.procedure = procedure;
            frame.base = values.size();
            frame.caller = null;
            frame.call = null;
            frame.redosAtCall = redoCount;
            for (int i = 0; i < procedure.slots; i++) {
                values.push(0);
            }
            noteSize();
            return frame;
        }

        void pushRedo(Frame frame, int instruction, int heapNow) {
            Redo redo;
            if (within(redoCount, redos.size())) {
                redo = redos.get(redoCount);
            } else {
                redo = new Redo(frame);
                redos.add(redo);
            }
            redoCount++;
            redo.frame = frame;
            redo.instruction = instruction;
            redo.dead = false;
            redo.framesBelow = frameCount;
            redo.valuesBelow = values.size();
            redo.trailBelow = trail.size();
            redo.heapThen = heapNow;
            noteSize();
        }

        private Redo redoAt(int number) {
            return within(number, redoCount) && number < redos.size() ? redos.get(number) : null;
        }

        long read(Frame frame, int slot) {
            return values.at(frame.base + slot);
        }

        /** SLOTS above the latest REDO point need no trail: going back to it drops them. */
        void write(Frame frame, int slot, long value) {
            int place = frame.base + slot;
            Redo latest = redoAt(redoCount - 1);
            if (latest != null && place < latest.valuesBelow) {
                trail.push(values.at(place) << PLACE_BITS | place);
            }
            values.set(place, value);
        }

        void cutTo(int n, Frame atWork) {
            redoCount = Math.min(redoCount, Math.max(n, 0));
            Redo last = redoAt(redoCount - 1);
            if (last == null) {
                trail.shrink(0);
                keepFrames(atWork.number + 1);
            } else {
                keepFrames(Math.max(atWork.number + 1, last.framesBelow));
            }
        }

        private void keepFrames(int kept) {
            if (within(kept, frameCount) && kept < frames.size()) {
                values.shrink(frames.get(kept).base);
                frameCount = kept;
            }
        }

        void dropRedo(int number) {
            Redo redo = redoAt(number);
            if (redo != null) {
                redo.dead = true;
            }
        }

        void leave(Frame frame) {
            Redo latest = redoAt(redoCount - 1);
            boolean redoAbove = latest != null && latest.framesBelow > frame.number;
            if (frame.number == frameCount - 1 && !redoAbove) {
                keepFrames(frame.number);
            }
        }

        /** The latest REDO point, gone with all above it; null when there is none. */
        Redo popRedo() {
            Redo latest = redoAt(redoCount - 1);
            if (latest != null) {
                redoCount--;
                keepFrames(latest.framesBelow);
            }
            return latest;
        }

        void goBackTo(Redo redo) {
            for (int left = trail.size(); left > redo.trailBelow; left--) {
                long change = trail.pop();
                values.set((int) (change & PLACE_MASK), change >> PLACE_BITS);
            }
        }
    }

    /** A CELL with FIELDS is one word of its own and its FIELDS behind it. */
    private static final class Heap {
        private final LongRow words = new LongRow();
        private final LongRow pending = new LongRow();
        private int limit;
        int greatest;

        void clear(int newLimit) {
            words.shrink(0);
            limit = newLimit;
            greatest = 0;
        }

        int used() {
            return words.size();
        }

        void goBackTo(int usedThen) {
            words.shrink(usedThen);
        }

        boolean hasRoom(int fields) {
            return fields == 0 || words.size() + 1 + fields <= limit;
        }

        /** The caller fills in as many FIELDS next. */
        long open(int tag, int fields) {
            if (fields == 0) {
                return Value.cell(tag, 0, 0);
            }
            long cell = Value.cell(tag, fields, words.size());
            words.push(tag);
            return cell;
        }

        void fill(long field) {
            words.push(field);
            greatest = Math.max(greatest, words.size());
        }

        long field(long cell, int i) {
            return words.at(Value.place(cell) + 1 + i);
        }

        /** READY if they are the same, FAILED if they differ, WRONG if PAIRS are too many. */
        int compare(long left, long right) {
            pending.shrink(0);
            pending.push(left);
            pending.push(right);
            for (int looked = 0; looked < PAIRS_MOST && pending.size() > 0; looked++) {
                long second = pending.pop();
                long first = pending.pop();
                if (Value.differ(first, second)) {
                    return FAILED;
                }
                awaitFields(first, second);
            }
            return pending.size() > 0 ? WRONG : READY;
        }

        /** From the right, so that the leftmost is looked at next. */
        private void awaitFields(long left, long right) {
            if (!Value.isCell(left)) {
                return;
            }
            for (int i = Value.fields(left) - 1; i >= 0; i--) {
                pending.push(field(left, i));
                pending.push(field(right, i));
            }
        }
    }

    private static final class Engine {
        private final Stack stack = new Stack();
        final Heap heap = new Heap();
        private int state = NONE;
        private int steps;
        private int solutions;
        /** The FRAME at work; null before the first start. */
        private Frame work;
        private int next;

        void start(Procedure begun, int[] arguments, int stackLimit, int heapLimit) {
            stack.clear(stackLimit);
            heap.clear(heapLimit);
            Frame first = stack.pushFrame(begun);
            for (int i = 0; i < arguments.length; i++) {
                stack.write(first, i, arguments[i]);
            }
            state = READY;
            steps = 0;
            solutions = 0;
            work = first;
            next = 0;
        }

        int advance(int n) {
            if (n < 1) {
                return state;
            }
            if (state == SOLUTION) {
                fail();
            }
            for (int done = 0; done < n && state == READY; done++) {
                if (steps >= FUEL || work == null) {
                    state = OUT_OF_FUEL;
                } else {
                    steps++;
                    settle(step(work));
                }
            }
            return state;
        }

        int figure(int what) {
            switch (what) {
                case 0:
                    return state;
                case 1:
                    return steps;
                case 2:
                    return stack.size();
                case 3:
                    return stack.greatest;
                case 4:
                    return heap.used();
                case 5:
                    return heap.greatest;
                case 6:
                    return solutions;
                case 7:
                    return stack.redoCount;
                case 8:
                    return stack.frameCount;
                default:
                    return NONE;
            }
        }

        boolean hasOut(int k) {
            return state == SOLUTION && work != null && within(k, work.procedure.outs.length);
        }

        long outValue(int k) {
            return hasOut(k) ? stack.read(work, work.procedure.outs[k]) : 0;
        }

        long slotSeen(int k) {
            boolean seen = state == READY || state == SOLUTION;
            if (!seen || work == null || !within(k, work.procedure.slots)) {
                return NONE;
            }
            return Value.shown(stack.read(work, k));
        }

        /** Every instruction answers the STATE that it leads to, or FAILED. */
        private int step(Frame frame) {
            Instruction i = frame.procedure.instructionAt(next);
            if (i == null) {
                return FAILED;
            }
            next++;
            switch (i.kind) {
                case NUMBER:
                    return become(frame, i.a, i.b);
                case MOVE:
                    return become(frame, i.a, stack.read(frame, i.b));
                case MAKE:
                    return make(frame, i);
                case TAKE:
                    return take(frame, i);
                case SAME:
                    return heap.compare(stack.read(frame, i.a), stack.read(frame, i.b));
                case SUM:
                    return sum(frame, i);
                case COMPARE:
                    return compare(frame, i);
                case GO:
                    return go(i.a);
                case UNLESS:
                    return Value.hasTag(stack.read(frame, i.a), i.b) ? READY : go(i.c);
                case TRY:
                    return leaveRedo(frame, i.a);
                case CALL:
                    return call(frame, i);
                case MARK:
                    return become(frame, i.a, stack.redoCount);
                case CUT:
                    return cut(frame, stack.read(frame, i.a));
                case DROP:
                    return drop(stack.read(frame, i.a));
                case EXIT:
                    return exit(frame);
                default:
                    return FAILED;
            }
        }

        private void settle(int outcome) {
            if (outcome == FAILED) {
                fail();
            } else {
                state = outcome;
            }
        }

        private int become(Frame frame, int slot, long value) {
            stack.write(frame, slot, value);
            return READY;
        }

        private int go(int to) {
            next = to;
            return READY;
        }

        private int make(Frame frame, Instruction i) {
            if (!heap.hasRoom(i.row.length)) {
                return HEAP_FULL;
            }
            long cell = heap.open(i.b, i.row.length);
            for (int source : i.row) {
                heap.fill(stack.read(frame, source));
            }
            return become(frame, i.a, cell);
        }

        private int take(Frame frame, Instruction i) {
            long cell = stack.read(frame, i.a);
            if (!Value.hasTag(cell, i.b) || Value.fields(cell) != i.row.length) {
                return FAILED;
            }
            for (int f = 0; f < i.row.length; f++) {
                stack.write(frame, i.row[f], heap.field(cell, f));
            }
            return READY;
        }

        private int sum(Frame frame, Instruction i) {
            long left = stack.read(frame, i.b);
            long right = stack.read(frame, i.c);
            if (Value.isCell(left) || Value.isCell(right)) {
                return WRONG;
            }
            if (right == 0 && (i.d == QUOTIENT || i.d == REST)) {
                return FAILED;
            }
            return become(frame, i.a, result(i.d, (int) left, (int) right));
        }

        private static int result(int operation, int left, int right) {
            switch (operation) {
                case PLUS:
                    return left + right;
                case MINUS:
                    return left - right;
                case TIMES:
                    return left * right;
                case QUOTIENT:
                    return right == 0 ? 0 : left / right;
                default:
                    return right == 0 ? 0 : left % right;
            }
        }

        private int compare(Frame frame, Instruction i) {
            long left = stack.read(frame, i.a);
            long right = stack.read(frame, i.b);
            if (Value.isCell(left) || Value.isCell(right)) {
                return WRONG;
            }
            return holds(i.c, left, right) ? READY : FAILED;
        }

        private static boolean holds(int relation, long left, long right) {
            switch (relation) {
                case LESS:
                    return left < right;
                case AT_MOST:
                    return left <= right;
                case MORE:
                    return left > right;
                case AT_LEAST:
                    return left >= right;
                case EQUAL:
                    return left == right;
                default:
                    return left != right;
            }
        }

        private int leaveRedo(Frame frame, int to) {
            if (!stack.hasRoom(REDO_SIZE)) {
                return STACK_FULL;
            }
            stack.pushRedo(frame, to, heap.used());
            return READY;
        }

        private int call(Frame frame, Instruction i) {
            Procedure callee = i.callee;
            if (callee == null || !stack.hasRoom(callee.frameSize())) {
                return STACK_FULL;
            }
            Frame called = stack.pushFrame(callee);
            called.caller = frame;
            called.call = i;
            called.back = next;
            for (int k = 0; k < callee.ins && k < i.row.length; k++) {
                stack.write(called, k, stack.read(frame, i.row[k]));
            }
            work = called;
            return go(0);
        }

        private int cut(Frame frame, long n) {
            if (Value.isCell(n)) {
                return WRONG;
            }
            stack.cutTo((int) n, frame);
            return READY;
        }

        private int drop(long n) {
            if (Value.isCell(n)) {
                return WRONG;
            }
            stack.dropRedo((int) n);
            return READY;
        }

        private int exit(Frame frame) {
            Procedure done = frame.procedure;
            if (!done.again) {
                stack.cutTo(frame.redosAtCall, frame);
            }
            Frame caller = frame.caller;
            Instruction call = frame.call;
            if (caller == null || call == null) {
                solutions++;
                return SOLUTION;
            }
            for (int k = 0; k < done.outs.length && done.ins + k < call.row.length; k++) {
                stack.write(caller, call.row[done.ins + k], stack.read(frame, done.outs[k]));
            }
            stack.leave(frame);
            work = caller;
            return go(frame.back);
        }

        private void fail() {
            for (int left = stack.redoCount; left > 0; left--) {
                Redo redo = stack.popRedo();
                if (redo != null && !redo.dead) {
                    stack.goBackTo(redo);
                    heap.goBackTo(redo.heapThen);
                    work = redo.frame;
                    next = redo.instruction;
                    state = READY;
                    return;
                }
            }
            state = NO_MORE;
        }
    }

    /**
     * OUT, in rows that every tell uses again, as a text and its digits made anew for each of 512
     * calls would take much room. Nested CELLS wait in a row too, as they may be nested deeper
     * than calls should be.
     */
    private static final class Text {
        private static final int DIGITS_MOST = 10;

        private final char[] characters = new char[OUT_MOST];
        private int length;
        /** Those of one NUMBER, the last one first. */
        private final char[] digits = new char[DIGITS_MOST];
        /** Pairs of a CELL whose ) is due and how many of its FIELDS are written. */
        private final LongRow open = new LongRow();

        int write(long value, Heap heap) {
            length = 0;
            open.shrink(0);
            writeHead(value);
            for (int i = 0; i < OUT_MOST && length < OUT_MOST && open.size() > 0; i++) {
                writeMore(heap);
            }
            return length;
        }

        /** What would come behind the row's end is left out. */
        private void writeCharacter(char c) {
            if (within(length, characters.length)) {
                characters[length] = c;
                length++;
            }
        }

        private void writeHead(long value) {
            if (!Value.isCell(value)) {
                writeNumber(value);
                return;
            }
            writeCharacter('c');
            writeNumber(Value.tag(value));
            if (Value.fields(value) > 0) {
                writeCharacter('(');
                open.push(value);
                open.push(0);
            }
        }

        /** A long, as the least NUMBER has no int above 0 with its digits. */
        private void writeNumber(long number) {
            if (number < 0) {
                writeCharacter('-');
            }
            long rest = Math.abs(number);
            int count = 0;
            while (count < digits.length && (count == 0 || rest > 0)) {
                digits[count] = (char) ('0' + rest % 10);
                rest /= 10;
                count++;
            }
            for (int i = count - 1; i >= 0; i--) {
                writeCharacter(digits[i]);
            }
        }

        /** At least one character comes, so that OUT_MOST calls are enough. */
        private void writeMore(Heap heap) {
            int written = (int) open.pop();
            long cell = open.pop();
            if (written >= Value.fields(cell)) {
                writeCharacter(')');
                return;
            }
            if (written > 0) {
                writeCharacter(',');
            }
            open.push(cell);
            open.push(written + 1);
            writeHead(heap.field(cell, written));
        }

        int characterAt(int i) {
            return within(i, length) && i < characters.length ? characters[i] : NONE;
        }
    }
}
