import java.lang.reflect.Constructor;
import java.lang.reflect.Field;
import java.lang.reflect.Method;
import java.lang.reflect.Modifier;
import java.util.NoSuchElementException;
import java.util.TreeSet;

/** The face, and promises 1 to 8 and 10. */
public final class LoadingTest {
  private static final int NONE = RegionYard.NONE;

  private LoadingTest() {
  }

  public static void main(String[] args) {
    face();
    newObject();
    begin();
    feedParts();
    feedLimits();
    label();
    type();
    function();
    out();
    link();
    linkDepth();
    program();
    Asm.end("LoadingTest");
  }

  private static void face() {
    TreeSet<String> seen = new TreeSet<>();
    for (Method m : RegionYard.class.getDeclaredMethods()) {
      if (!Modifier.isPrivate(m.getModifiers())) {
        StringBuilder text = new StringBuilder();
        text.append(Modifier.toString(m.getModifiers())).append(' ').append(m.getReturnType()).append(' ').append(m.getName());
        text.append('/').append(m.getParameterCount());
        seen.add(text.toString());
      }
    }
    TreeSet<String> want = new TreeSet<>();
    String[] ints = {"begin/1", "feed/1", "function/1", "link/2", "verify/0", "program/2", "spawn/2", "tick/0",
      "run/1", "quantum/1", "process/2", "register/2", "cell/2", "peek/1", "count/1"};
    for (String name : ints) {
      want.add("public int " + name);
    }
    for (String name : new String[] {"label/2", "type/5", "out/5", "kill/1"}) {
      want.add("public boolean " + name);
    }
    want.add("public long trace/1");
    Asm.due("the face " + seen, seen.equals(want), true);
    for (Field f : RegionYard.class.getDeclaredFields()) {
      Asm.due("field " + f.getName() + " is private or NONE",
        Modifier.isPrivate(f.getModifiers()) || f.getName().equals("NONE"), true);
    }
    int publics = 0;
    for (Constructor<?> c : RegionYard.class.getDeclaredConstructors()) {
      publics += Modifier.isPublic(c.getModifiers()) && c.getParameterCount() == 0 ? 1 : 100;
    }
    Asm.due("constructors", publics, 1);
    Asm.due("final", Modifier.isFinal(RegionYard.class.getModifiers()), true);
    Asm.due("NONE", NONE, -1);
  }

  private static void newObject() {
    RegionYard y = new RegionYard();
    int[] counts = {0, 0, 0, 0, 4096, 1, 4096, 0, NONE};
    for (int what = 0; what < counts.length; what++) {
      Asm.due("count(" + what + ") of a new yard", y.count(what), counts[what]);
    }
    for (int at = 0; at < 4096; at += 15) {
      Asm.due("peek of a new yard", y.peek(at), 0);
    }
    Asm.due("tick of a new yard", y.tick(), NONE);
    Asm.due("THE QUANTUM", y.quantum(4), 4);
    Asm.dueThrow("process of a new yard", NoSuchElementException.class, () -> y.process(0, 0));
    Asm.dueThrow("program of a new yard", NoSuchElementException.class, () -> y.program(0, 0));
  }

  private static void begin() {
    RegionYard y = new RegionYard();
    for (int need : new int[] {0, -1, 1025, Asm.MIN, Asm.MAX}) {
      Asm.due("begin(" + need + ")", y.begin(need), NONE);
    }
    Asm.due("begin(1)", y.begin(1), 0);
    Asm.due("begin while OPEN", y.begin(1), NONE);
    Asm.due("verify without words", y.verify(), 1);
    Asm.due("begin(1024)", y.begin(1024), 1);
    Asm.due("count(0) with one OPEN", y.count(0), 2);
    y.verify();
    for (int i = 2; i < 24; i++) {
      Asm.due("begin of number " + i, y.begin(5), i);
      y.verify();
    }
    Asm.due("begin with 24", y.begin(5), NONE);
    Asm.due("verify without an OPEN one", y.verify(), NONE);
    Asm.due("count(0)", y.count(0), 24);
  }

  private static final String[] PARTS = {"A", "", "DN", "DA", "DAB", "DAB", "DAB", "DAB", "DAB", "DAN", "DAN",
    "DAN", "DN", "DAN", "DAN", "N", "DAN", "DAN", "N", "N", ""};

  private static void feedParts() {
    Asm.due("feed without an OPEN one", new RegionYard().feed(0), NONE);
    for (int op = 0; op < 256; op++) {
      String parts = op < PARTS.length ? PARTS[op] : "";
      boolean is = op < PARTS.length;
      for (int d : new int[] {0, 1, 7, 8, 15}) {
        feedOne(Asm.word(op, d, 0, 0), is && (d == 0 || d < 8 && parts.contains("D")));
        feedOne(Asm.word(op, 0, d, 0), is && (d == 0 || d < 8 && parts.contains("A")));
        feedOne(Asm.word(op, 0, 0, d << 12), is && (d == 0 || op != 11 && parts.contains("N") || d < 8 && parts.contains("B")));
      }
      for (int n : new int[] {1, 31, 32, 33, 0xFFF, 0x7001, 0xFFFF}) {
        feedOne(Asm.word(op, 0, 0, n), is && parts.contains("N") && (op != 11 || n <= 31));
      }
    }
    feedOne(-1, false);
    feedOne(Asm.MIN, false);
  }

  private static void feedOne(int word, boolean taken) {
    RegionYard y = new RegionYard();
    y.begin(1);
    Asm.due("feed(" + Integer.toHexString(word) + ")", y.feed(word), taken ? 0 : NONE);
    Asm.due("count(1) behind it", y.count(1), taken ? 1 : 0);
  }

  private static void feedLimits() {
    RegionYard y = new RegionYard();
    for (int p = 0; p < 2; p++) {
      y.begin(1);
      for (int i = 0; i < 200; i++) {
        Asm.due("feed", y.feed(0), i);
      }
      Asm.due("feed of the 201st", y.feed(0), NONE);
      Asm.due("words", y.program(p, 2), 200);
      y.verify();
    }
    Asm.due("count(1)", y.count(1), 400);
  }

  private static void label() {
    RegionYard y = new RegionYard();
    Asm.due("label without an OPEN one", y.label(0, 0), false);
    y.begin(1);
    Asm.due("label without a word", y.label(0, 0), false);
    y.feed(0);
    Asm.due("label", y.label(0, 0), true);
    Asm.due("label(1, 0) without such a word", y.label(1, 0), false);
    Asm.due("label(-1, 0)", y.label(-1, 0), false);
    Asm.due("label(200, 0)", y.label(200, 0), false);
    Asm.due("label of no function", y.label(0, 1), false);
    Asm.due("label of no function", y.label(0, -1), false);
    Asm.due("label of no function", y.label(0, 8), false);
    y.function(0);
    Asm.due("label of a function", y.label(0, 1), true);
    Asm.due("label(0, 0) again", y.label(0, 0), true);
    Asm.due("type", y.type(0, 0, 1, 0, 0), true);
    Asm.due("label again: its types are 0 anew", y.label(0, 0), true);
    Asm.due("verify: EXIT of no INT", y.verify(), 2);
    Asm.due("label behind verify", y.label(0, 0), false);
    relabel();
  }

  private static void relabel() {
    RegionYard y = new RegionYard();
    Asm.open(y, 1, Asm.exit(0));
    y.function(0);
    Asm.label(y, 0, 0, Asm.zero(0));
    Asm.label(y, 0, 1, Asm.zero(0));
    Asm.due("verify: index 0 is now of function 1", y.verify(), 12);
  }

  private static void type() {
    RegionYard y = new RegionYard();
    Asm.due("type without an OPEN one", y.type(0, 0, 0, 0, 0), false);
    Asm.open(y, 1, Asm.exit(0), Asm.exit(0));
    y.label(0, 0);
    Asm.due("type", y.type(0, 0, 1, 0, 0), true);
    Asm.due("type of register 7", y.type(0, 7, 1, Asm.MIN, Asm.MAX), true);
    Asm.due("type of kind 2", y.type(0, 6, 2, -5, -5), true);
    Asm.due("type at no label", y.type(1, 0, 1, 0, 0), false);
    Asm.due("type at no word", y.type(2, 0, 1, 0, 0), false);
    Asm.due("type at -1", y.type(-1, 0, 1, 0, 0), false);
    Asm.due("type at 200", y.type(200, 0, 1, 0, 0), false);
    Asm.due("type of register 8", y.type(0, 8, 1, 0, 0), false);
    Asm.due("type of register -1", y.type(0, -1, 1, 0, 0), false);
    Asm.due("type of kind 3", y.type(0, 0, 3, 0, 0), false);
    Asm.due("type of kind -1", y.type(0, 0, -1, 0, 0), false);
    Asm.due("type, LOW above HIGH", y.type(0, 0, 1, 1, 0), false);
    Asm.due("type, LOW above HIGH", y.type(0, 0, 2, 1, 0), false);
    Asm.due("type 0, LOW above HIGH", y.type(0, 6, 0, 1, 0), true);
    y.label(1, 0);
    y.type(1, 0, 1, 3, 3);
    Asm.due("verify", y.verify(), 0);
    Asm.due("type behind verify", y.type(0, 0, 1, 0, 0), false);
  }

  private static void function() {
    RegionYard y = new RegionYard();
    Asm.due("function without an OPEN one", y.function(0), NONE);
    y.begin(1);
    Asm.due("function without words", y.function(0), NONE);
    y.feed(0);
    Asm.due("function(-1)", y.function(-1), NONE);
    Asm.due("function(1)", y.function(1), NONE);
    for (int i = 1; i < 8; i++) {
      Asm.due("function", y.function(0), i);
    }
    Asm.due("function with 8", y.function(0), NONE);
    Asm.due("program(0, 3)", y.program(0, 3), 8);
    y.verify();
    Asm.due("function behind verify", y.function(0), NONE);
  }

  private static void out() {
    RegionYard y = new RegionYard();
    Asm.due("out without an OPEN one", y.out(0, 0, 0, 0, 0), false);
    y.begin(1);
    Asm.due("out of function 0", y.out(0, 0, 1, 0, 0), true);
    Asm.due("out of no function", y.out(1, 0, 1, 0, 0), false);
    Asm.due("out of function -1", y.out(-1, 0, 1, 0, 0), false);
    Asm.due("out of function 8", y.out(8, 0, 1, 0, 0), false);
    y.feed(0);
    y.function(0);
    Asm.due("out of function 1", y.out(1, 7, 2, -3, 9), true);
    Asm.due("out of register 8", y.out(1, 8, 1, 0, 0), false);
    Asm.due("out of register -1", y.out(1, -1, 1, 0, 0), false);
    Asm.due("out of kind 3", y.out(1, 0, 3, 0, 0), false);
    Asm.due("out of kind -1", y.out(1, 0, -1, 0, 0), false);
    Asm.due("out, LOW above HIGH", y.out(1, 0, 1, 5, 4), false);
    Asm.due("out, LOW above HIGH", y.out(1, 0, 2, 5, 4), false);
    Asm.due("out 0, LOW above HIGH", y.out(1, 0, 0, 5, 4), true);
    y.verify();
    Asm.due("out behind verify", y.out(1, 0, 0, 0, 0), false);
  }

  /** Program of a need: f0 exits; f1 returns; f2's entry is no label; f3's is a label of f1. */
  private static int loadLibrary(RegionYard y, int need) {
    int number = Asm.open(y, need, Asm.exit(0), Asm.yieldTurn(), Asm.giveBack());
    y.function(1);
    y.function(2);
    y.function(1);
    Asm.label(y, 0, 0, Asm.zero(0));
    Asm.label(y, 1, 1);
    return number;
  }

  private static void link() {
    RegionYard y = new RegionYard();
    Asm.due("link without an OPEN one", y.link(0, 1), NONE);
    loadLibrary(y, 10);
    Asm.due("link to the OPEN one itself", y.link(0, 1), NONE);
    Asm.due("verify of a library", y.verify(), 0);
    Asm.due("link behind verify", y.link(0, 1), NONE);
    Asm.open(y, 1);
    Asm.due("verify without words", y.verify(), 1);
    Asm.due("begin(9)", y.begin(9), 2);
    Asm.due("link with a lesser NEED", y.link(0, 1), NONE);
    y.verify();
    Asm.due("begin(10)", y.begin(10), 3);
    Asm.due("link to a refused one", y.link(1, 0), NONE);
    Asm.due("link to function 0", y.link(0, 0), NONE);
    Asm.due("link to function -1", y.link(0, -1), NONE);
    Asm.due("link to function 4", y.link(0, 4), NONE);
    Asm.due("link to an entry without a label", y.link(0, 2), NONE);
    Asm.due("link to an entry of another function", y.link(0, 3), NONE);
    Asm.due("link to program -1", y.link(-1, 1), NONE);
    Asm.due("link to program 3", y.link(3, 1), NONE);
    Asm.due("link to program 4", y.link(4, 1), NONE);
    for (int i = 0; i < 8; i++) {
      Asm.due("link", y.link(0, 1), i);
    }
    Asm.due("link with 8", y.link(0, 1), NONE);
    Asm.due("program(3, 4)", y.program(3, 4), 8);
  }

  /** A chain: f1 calls f2 .. f(last), and that one what is linked, if something is. */
  private static int loadChain(RegionYard y, int last, int linkTo) {
    int number = y.begin(1);
    y.feed(Asm.exit(0));
    Asm.label(y, 0, 0, Asm.zero(0));
    if (linkTo != NONE) {
      Asm.due("link of a chain", y.link(linkTo, 1), 0);
    }
    for (int f = 1; f <= last; f++) {
      boolean calls = f < last || linkTo != NONE;
      int at = y.feed(f < last ? Asm.call(f + 1) : linkTo != NONE ? Asm.linked(0) : Asm.yieldTurn());
      y.feed(Asm.giveBack());
      Asm.due("function", y.function(at), f);
      Asm.label(y, at, f);
      if (calls) {
        Asm.label(y, at + 1, f);
      }
    }
    Asm.due("verify of a chain", y.verify(), 0);
    return number;
  }

  private static void linkDepth() {
    RegionYard y = new RegionYard();
    int p0 = loadChain(y, 7, NONE);   // f1 is 6 deep
    int p1 = loadChain(y, 7, p0);     // 13
    int p2 = loadChain(y, 7, p1);     // 20
    int p3 = loadChain(y, 7, p2);     // 27
    int p4 = loadChain(y, 5, p3);     // 32
    int p5 = loadChain(y, 6, p3);     // 33
    int user = y.begin(1);
    Asm.due("link to a function 33 deep", y.link(p5, 1), NONE);
    Asm.due("link to a function 32 deep", y.link(p4, 1), 0);
    y.feed(Asm.call(1));
    y.feed(Asm.jump(0));
    Asm.label(y, 0, 0);
    Asm.label(y, 1, 0);
    for (int f = 1; f <= 7; f++) {
      int at = y.feed(f < 7 ? Asm.call(f + 1) : Asm.linked(0));
      y.feed(Asm.giveBack());
      y.function(at);
      Asm.label(y, at, f);
      Asm.label(y, at + 1, f);
    }
    Asm.due("verify of the deepest", y.verify(), 0);
    Asm.due("DEPTH of the deepest", y.program(user, 6), 40);
    y.spawn(user, 1);
    Asm.due("run to the bottom", y.run(41), 41);
    Asm.due("open calls", y.process(0, 4), 40);
    Asm.due("place", y.process(0, 2), 1000 * p0 + 14);
    Asm.due("run back", y.run(40), 40);
    Asm.due("open calls", y.process(0, 4), 0);
    Asm.due("place", y.process(0, 2), 1000 * user + 1);
  }

  private static void program() {
    RegionYard y = new RegionYard();
    Asm.open(y, 77, Asm.exit(0));
    programIs(y, 0, 0, 77, 1, 1, 0, NONE, 0);
    y.verify();
    programIs(y, 0, 2, 77, 1, 1, 0, 12, 0);
    loadLibrary(y, 3);
    y.verify();
    programIs(y, 1, 1, 3, 3, 4, 0, 0, 0);
    Asm.open(y, 3, Asm.linked(0), Asm.call(1), Asm.exit(0), Asm.linked(0), Asm.giveBack());
    y.function(3);
    y.link(1, 1);
    Asm.label(y, 0, 0);
    Asm.label(y, 1, 0);
    Asm.label(y, 2, 0, Asm.zero(0));
    Asm.label(y, 3, 1);
    Asm.label(y, 4, 1, Asm.zero(0));
    Asm.due("verify: what comes from f1 is no INT", y.verify(), 16 + 4);
    programIs(y, 2, 2, 3, 5, 2, 1, 16 + 4, 0);
    for (int what : new int[] {-1, 7, Asm.MIN, Asm.MAX}) {
      Asm.dueThrow("program(0, " + what + ")", NoSuchElementException.class, () -> y.program(0, what));
    }
    for (int number : new int[] {-1, 3, 24, Asm.MIN, Asm.MAX}) {
      Asm.dueThrow("program(" + number + ", 0)", NoSuchElementException.class, () -> y.program(number, 0));
    }
  }

  private static void programIs(RegionYard y, int number, int... want) {
    for (int what = 0; what < want.length; what++) {
      Asm.due("program(" + number + ", " + what + ")", y.program(number, what), want[what]);
    }
  }
}
