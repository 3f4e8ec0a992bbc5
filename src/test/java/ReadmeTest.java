import java.io.ByteArrayOutputStream;
import java.io.IOException;
import java.io.PrintStream;
import java.nio.file.Files;
import java.nio.file.Path;

/** The example of README.md is the one that is compiled here, and prints what it says. */
public final class ReadmeTest {
  private static final String FIRST = "RedoMachine m = new RedoMachine();";

  private static void example() {
    RedoMachine m = new RedoMachine();
    m.put(0);                               // its OUTS: slot 0
    int p = m.procedure(true, 1, 0);        // may succeed again, 1 slot, no arguments
    m.add(p, 9, 3, 0, 0, 0);                // 0 TRY 3
    m.add(p, 0, 0, 1, 0, 0);                // 1 NUMBER slot 0, 1
    m.add(p, 14, 0, 0, 0, 0);               // 2 EXIT
    m.add(p, 0, 0, 2, 0, 0);                // 3 NUMBER slot 0, 2
    m.add(p, 14, 0, 0, 0, 0);               // 4 EXIT

    m.begin(p, 100, 100);                   // limits of the stack and the heap
    while (m.run(1000) == 1) {              // 1: a solution; 2: no more
        int length = m.tell(0);             // OUT becomes "1", then "2"
        for (int i = 0; i < length; i++) System.out.print((char) m.letter(i));
        System.out.println();
    }
  }

  /** The lines from that one on up to a line, without their indents. */
  private static String lines(String file, String first, String end) throws IOException {
    StringBuilder block = new StringBuilder();
    boolean inside = false;
    for (String line : Files.readAllLines(Path.of(file))) {
      if (inside && line.equals(end)) return block.toString();
      inside = inside || line.strip().equals(first);
      if (inside) block.append(line.strip()).append('\n');
    }
    return "no such lines in " + file;
  }

  private static String printed() {
    ByteArrayOutputStream bytes = new ByteArrayOutputStream();
    PrintStream console = System.out;
    System.setOut(new PrintStream(bytes, true));
    example();
    System.setOut(console);
    return bytes.toString();
  }

  public static void main(String[] args) throws IOException {
    Check check = new Check("readme");
    check.due("what the example prints", printed(), String.format("1%n2%n"));
    check.due("the example of README.md", lines("README.md", FIRST, "```"),
        lines("src/test/java/ReadmeTest.java", FIRST, "  }"));
    check.end();
  }
}
