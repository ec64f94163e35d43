import java.io.IOException;
import java.nio.charset.StandardCharsets;
import java.nio.file.Files;
import java.nio.file.Path;
import java.util.ArrayList;
import java.util.HashSet;
import java.util.List;
import java.util.Set;

/** The examples of README.md, line by line as they stand there, and what they answer. */
public final class ReadmeTest {
  private static final Path README = Path.of("README.md");
  private static final Path SELF = Path.of("src/test/java/ReadmeTest.java");

  private ReadmeTest() {
  }

  public static void main(String[] args) throws IOException {
    smallest();
    square();
    linesAreTheSame();
    namesEachTest();
    Asm.end("ReadmeTest");
  }

  static int word(int op, int d, int a, int n) {
      return op << 24 | d << 20 | a << 16 | n & 0xFFFF;
  }

  private static void smallest() {
    RegionYard yard = new RegionYard();
    int program = yard.begin(8);            // 0: a program is open, and needs 8 cells
    yard.feed(word(2, 0, 0, 5));            // SET r0 5
    yard.feed(word(0, 0, 0, 0));            // EXIT r0
    yard.label(0, 0);                       // index 0 is a label of function 0
    int fault = yard.verify();              // 0: accepted
    int process = yard.spawn(program, 8);   // 0: in the cells 0 to 7
    int ticks = yard.run(100);              // 2: then the queue is empty
    int value = yard.process(process, 8);   // 5
    Asm.due("begin", program, 0);
    Asm.due("verify", fault, 0);
    Asm.due("spawn", process, 0);
    Asm.due("run", ticks, 2);
    Asm.due("value", value, 5);
  }

  private static void square() {
    RegionYard yard = new RegionYard();
    int library = yard.begin(1);
    yard.feed(word(0, 0, 0, 0));            // 0 EXIT r0
    yard.feed(word(6, 1, 1, 1 << 12));      // 1 MUL r1 r1 r1
    yard.feed(word(20, 0, 0, 0));           // 2 RETURN
    int square = yard.function(1);          // 1, with its entry at index 1
    yard.label(0, 0);
    yard.type(0, 0, 1, 0, 0);               // EXIT wants an INT, and r0 is 0 at first
    yard.label(1, square);
    yard.type(1, 0, 1, 0, 7);               // it is called with r0 and r1 from 0 to 7
    yard.type(1, 1, 1, 0, 7);
    yard.out(square, 0, 1, 0, 7);           // and returns with r0 as it was, r1 from 0 to 49
    yard.out(square, 1, 1, 0, 49);
    int libraryFault = yard.verify();       // 0

    int squares = yard.begin(8);
    int link = yard.link(library, square);  // 0
    yard.feed(word(2, 0, 0, 0));            // 0 SET r0 0
    yard.feed(word(3, 1, 0, 0));            // 1 MOVE r1 r0
    yard.feed(word(19, 0, 0, link));        // 2 LINKED 0
    yard.feed(word(12, 2, 0, 0));           // 3 BASE r2 0
    yard.feed(word(4, 2, 2, 0 << 12));      // 4 ADD r2 r2 r0
    yard.feed(word(14, 1, 2, 0));           // 5 STORE r1 r2 0
    yard.feed(word(9, 0, 0, 1));            // 6 INC r0 r0 1
    yard.feed(word(2, 3, 0, 8));            // 7 SET r3 8
    yard.feed(word(16, 0, 3, 1));           // 8 LESS r0 r3 1
    yard.feed(word(0, 0, 0, 0));            // 9 EXIT r0
    yard.label(0, 0);
    yard.label(1, 0);                       // LESS comes back to it
    yard.type(1, 0, 1, 0, 7);
    yard.label(3, 0);                       // RETURN comes back to it
    yard.type(3, 0, 1, 0, 7);
    yard.type(3, 1, 1, 0, 49);
    int squaresFault = yard.verify();       // 0

    int runner = yard.spawn(squares, 8);
    yard.run(13);                           // the first turn round, and two words more
    int place = yard.process(runner, 2);    // 1: program 0, index 1, in the call
    int calls = yard.process(runner, 4);    // 1
    int rest = yard.run(5000);              // 69
    int last = yard.peek(7);                // 49
    Asm.due("function", square, 1);
    Asm.due("verify of the library", libraryFault, 0);
    Asm.due("link", link, 0);
    Asm.due("verify", squaresFault, 0);
    Asm.due("place", place, 1);
    Asm.due("open calls", calls, 1);
    Asm.due("the rest", rest, 69);
    Asm.due("state", yard.process(runner, 0), 1);
    Asm.due("the last cell", last, 49);
    for (int i = 0; i < 8; i++) {
      Asm.due("cell " + i, yard.peek(i), i * i);
    }
  }

  private static List<String> readmeCode() throws IOException {
    List<String> code = new ArrayList<>();
    boolean inside = false;
    for (String line : Files.readAllLines(README, StandardCharsets.UTF_8)) {
      boolean fence = line.startsWith("```");
      if (inside && !fence) {
        code.add(line.trim());
      }
      inside = fence ? line.equals("```java") : inside;
    }
    return code;
  }

  private static void linesAreTheSame() throws IOException {
    Set<String> own = new HashSet<>();
    for (String line : Files.readAllLines(SELF, StandardCharsets.UTF_8)) {
      own.add(line.trim());
    }
    List<String> code = readmeCode();
    Asm.due("README.md has its examples", code.size() > 40, true);
    for (String line : code) {
      Asm.due("in README.md alone: " + line, own.contains(line), true);
    }
  }

  private static void namesEachTest() throws IOException {
    String readme = Files.readString(README, StandardCharsets.UTF_8);
    try (var files = Files.list(SELF.getParent())) {
      for (Path file : files.toList()) {
        String name = file.getFileName().toString().replace(".java", "");
        Asm.due("README.md tells of " + name, readme.contains("`" + name + "`"), true);
      }
    }
  }
}
