import java.lang.management.ManagementFactory;

/** The dearest programs, begun as often as 512 calls allow, make few objects. */
public final class RoomTest {
  // A run may make some 600,000 objects, of at least 16 bytes each, and 7.3 million elements.
  private static final long MOST_BYTES = 8_000_000;
  private static final Check check = new Check("room");

  private static long bytesMade() {
    com.sun.management.ThreadMXBean threads =
        (com.sun.management.ThreadMXBean) ManagementFactory.getThreadMXBean();
    return threads.getThreadAllocatedBytes(Thread.currentThread().getId());
  }

  private interface Program {
    int write(Bench b);
  }

  private static void look(String name, Program program) {
    long before = bytesMade();
    Bench b = new Bench();
    int p = program.write(b);
    for (int i = 0; i < 150; i++) {
      b.begin(p);
      b.run(Integer.MAX_VALUE);
    }
    dueBytes(name, bytesMade() - before);
  }

  private static void dueBytes(String name, long made) {
    System.out.println(name + ": " + made + " bytes");
    check.due(name + " within " + MOST_BYTES + " bytes", made <= MOST_BYTES, true);
  }

  /** 8 slots below a redo point change at every second step. */
  private static int changes(Bench b) {
    int q = b.again(1, 0, 0, 0, 0, 0, 0, 0, 0, 0);
    b.exit(q);
    int p = b.again(8, 0);
    b.redo(p, 0);
    for (int i = 0; i < 20; i++) b.call(p, q, 0, 1, 2, 3, 4, 5, 6, 7);
    b.go(p, 1);
    return p;
  }

  private static int frames(Bench b) {
    int p = b.again(1, 0);
    b.call(p, p);
    return p;
  }

  private static int redos(Bench b) {
    int p = b.again(1, 0);
    for (int i = 0; i < 20; i++) b.redo(p, 99);
    b.go(p, 0);
    return p;
  }

  private static int cells(Bench b) {
    int p = b.again(1, 0);
    for (int i = 0; i < 20; i++) b.make(p, 0, 1, 0);
    b.go(p, 0);
    return p;
  }

  /** A list whose elements are on the left, so that many pairs wait. */
  private static int pairs(Bench b) {
    int p = b.again(2, 0);
    for (int i = 0; i < 30; i++) b.make(p, 0, 1, 0, 1, 1, 1);
    b.same(p, 0, 0);
    b.exit(p);
    return p;
  }

  private static void texts() {
    long before = bytesMade();
    Bench b = new Bench();
    int p = b.again(1, 0, 0);
    for (int i = 0; i < 12; i++) b.make(p, 0, 31, 0, 0);
    b.exit(p);
    b.begin(p);
    b.run(100);
    for (int i = 0; i < 400; i++) b.tell(0);
    dueBytes("texts", bytesMade() - before);
  }

  public static void main(String[] args) {
    bytesMade();
    look("changes", RoomTest::changes);
    look("frames", RoomTest::frames);
    look("redo points", RoomTest::redos);
    look("cells", RoomTest::cells);
    look("pairs", RoomTest::pairs);
    texts();
    check.end();
  }
}
