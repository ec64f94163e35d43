import java.util.NoSuchElementException;

/** The edges of loading: of Terms 2 and of promises 1 to 8 and 10, each sentence for itself. */
public final class LoadEdgeTest {
  private static final int NONE = RegionYard.NONE;
  private static final int MIN = Asm.MIN;
  private static final int MAX = Asm.MAX;
  /** By OP: the parts that its words have. */
  private static final String[] PARTS = {"A", "", "DN", "DA", "DAB", "DAB", "DAB", "DAB", "DAB", "DAN", "DAN",
    "DAN", "DN", "DAN", "DAN", "N", "DAN", "DAN", "N", "N", ""};

  private LoadEdgeTest() {
  }

  public static void main(String[] args) {
    newObject();
    openOne();
    programLimits();
    beginEdges();
    feedNoneOpen();
    feedOps();
    feedRegisters();
    feedShift();
    feedOthers();
    feedFull();
    feedAllFull();
    feedRefused();
    labelAgain();
    labelEdges();
    labelRefused();
    typeEdges();
    typeRefused();
    functionEdges();
    outEdges();
    outRefused();
    linkEdges();
    linkPrograms();
    linkEntries();
    linkDepths();
    programEdges();
    Asm.end("LoadEdgeTest");
  }

  private static void newObject() {
    Asm.sentence("Promise 1", "No programs");
    RegionYard y = new RegionYard();
    Asm.due("count(0)", y.count(0), 0);
    Asm.due("count(1)", y.count(1), 0);
    Asm.dueThrow("program(0, 0)", NoSuchElementException.class, () -> y.program(0, 0));
    Asm.due("verify()", y.verify(), NONE);
    Asm.sentence("Promise 1", "no processes");
    Asm.due("count(2)", y.count(2), 0);
    Asm.due("count(3)", y.count(3), 0);
    Asm.due("count(7)", y.count(7), 0);
    Asm.due("count(8)", y.count(8), NONE);
    Asm.due("tick()", y.tick(), NONE);
    Asm.dueThrow("process(0, 0)", NoSuchElementException.class, () -> y.process(0, 0));
    Asm.sentence("Promise 1", "all cells free");
    Asm.due("count(4)", y.count(4), 4096);
    Asm.due("count(5)", y.count(5), 1);
    Asm.due("count(6)", y.count(6), 4096);
    Asm.sentence("Promise 1", "all cells .. 0");
    for (int first = 0; first < 4096; first += 512) {
      RegionYard cells = new RegionYard();
      for (int at = first; at < first + 512; at++) {
        Asm.due("peek(" + at + ")", cells.peek(at), 0);
      }
    }
    Asm.sentence("Promise 1", "THE QUANTUM 4");
    Asm.due("quantum(9)", y.quantum(9), 4);
    RegionYard turns = new RegionYard();
    loadLoop(turns);
    turns.spawn(0, 1);
    turns.spawn(0, 1);
    for (int i = 0; i < 9; i++) {
      Asm.due("tick " + i, turns.tick(), i / 4 % 2);
    }
    Asm.sentence("Promise 1", "A new object: of another one's programs and cells it has nothing");
    Asm.due("count(0) of a second one", new RegionYard().count(0), 0);
  }

  private static void loadLoop(RegionYard y) {
    Asm.open(y, 1, Asm.jump(0));
    Asm.label(y, 0, 0);
    Asm.due("verify of a loop", y.verify(), 0);
  }

  private static void openOne() {
    Asm.sentence("Terms 2", "One at a time is OPEN, from begin() to verify()");
    RegionYard y = new RegionYard();
    Asm.due("feed ahead of begin", y.feed(0), NONE);
    y.begin(3);
    Asm.due("state", y.program(0, 0), 0);
    Asm.due("feed", y.feed(0), 0);
    Asm.due("begin amid", y.begin(3), NONE);
    Asm.due("verify", y.verify(), 12);
    Asm.due("feed behind verify", y.feed(0), NONE);
    Asm.due("begin behind a refusal", y.begin(3), 1);
    Asm.due("the state of the one ahead", y.program(0, 0), 2);
    Asm.due("feed of the new one", y.feed(0), 0);
    y.label(0, 0);
    y.type(0, 0, 1, 0, 0);
    Asm.due("verify", y.verify(), 0);
    Asm.due("feed behind verify", y.feed(0), NONE);
    Asm.due("begin behind an acceptance", y.begin(3), 2);
  }

  private static void programLimits() {
    Asm.sentence("Terms 2", "words (at most 200)");
    RegionYard y = fullYard();
    Asm.due("the 201st", y.feed(Asm.yieldTurn()), NONE);
    Asm.due("words", y.program(0, 2), 200);
    Asm.sentence("Terms 2", "FUNCTIONS, numbered from 0 on, at most 8");
    Asm.due("the function of a new program", y.program(0, 3), 1);
    for (int i = 1; i < 8; i++) {
      Asm.due("function", y.function(199), i);
    }
    Asm.due("the ninth", y.function(199), NONE);
    Asm.due("functions", y.program(0, 3), 8);
    Asm.sentence("Terms 2", "(0 has its entry at index 0)");
    RegionYard start = new RegionYard();
    Asm.open(start, 1, Asm.set(1, 5), Asm.exit(1));
    Asm.label(start, 0, 0);
    Asm.label(start, 1, 0, Asm.anyInt(1));
    start.verify();
    start.spawn(0, 1);
    start.run(5);
    Asm.due("value of what began at 0", start.process(0, 8), 5);
    Asm.sentence("Terms 2", "LINKS, numbered from 0 on, at most 8");
    RegionYard links = new RegionYard();
    openLibrary(links, 1);
    links.verify();
    links.begin(1);
    for (int i = 0; i < 8; i++) {
      Asm.due("link", links.link(0, 1), i);
    }
    Asm.due("the ninth", links.link(0, 1), NONE);
    Asm.due("links", links.program(1, 4), 8);
    Asm.sentence("Terms 2", "All are 0 if nothing else was told");
    untold();
  }

  private static void untold() {
    for (int register = 0; register < 8; register++) {
      RegionYard y = new RegionYard();
      Asm.open(y, 1, Asm.exit(register));
      y.label(0, 0);
      Asm.due("EXIT of a register of no type", y.verify(), 2);
      RegionYard out = new RegionYard();
      Asm.open(out, 1, Asm.call(1), Asm.jump(1), Asm.giveBack());
      out.function(2);
      Asm.label(out, 0, 0);
      Asm.label(out, 1, 0, Asm.anyInt(register));
      Asm.label(out, 2, 1);
      Asm.due("an OUT type that was not told", out.verify(), 4);
    }
  }

  /** A program with 200 words is OPEN. */
  private static RegionYard fullYard() {
    RegionYard y = new RegionYard();
    y.begin(1);
    for (int i = 0; i < 200; i++) {
      Asm.due("feed", y.feed(Asm.yieldTurn()), i);
    }
    return y;
  }

  private static void beginEdges() {
    Asm.sentence("Promise 2", "A program is OPEN: its number");
    RegionYard y = new RegionYard();
    Asm.due("the first", y.begin(1), 0);
    Asm.due("it is OPEN", y.program(0, 0), 0);
    y.verify();
    Asm.due("the second", y.begin(1), 1);
    Asm.sentence("Promise 2", "NONE: one is OPEN");
    Asm.due("begin", y.begin(1), NONE);
    Asm.due("programs", y.count(0), 2);
    Asm.due("NEED of what is OPEN", y.program(1, 1), 1);
    Look.leavesAll("begin with one OPEN", true, z -> Asm.due("begin", z.begin(9), NONE));
    Asm.sentence("Promise 2", "there are 24");
    RegionYard many = new RegionYard();
    for (int i = 0; i < 24; i++) {
      Asm.due("begin", many.begin(1024), i);
      if (i % 2 == 0) {
        many.feed(Asm.jump(0));
        many.label(0, 0);
      }
      Asm.due("verify", many.verify(), i % 2 == 0 ? 0 : 1);
    }
    Asm.due("the 25th", many.begin(1), NONE);
    Asm.due("programs", many.count(0), 24);
    Asm.due("nothing is OPEN", many.feed(0), NONE);
    Asm.due("the last one's state", many.program(23, 0), 2);
    Asm.due("spawn of a 25th", many.spawn(24, 1024), NONE);
    Asm.dueThrow("program(24, 0)", NoSuchElementException.class, () -> many.program(24, 0));
    needEdges();
  }

  private static void needEdges() {
    Asm.sentence("Promise 2", "need is not 1 .. 1024");
    RegionYard y = new RegionYard();
    for (int need : new int[] {0, -1, MIN, 1025, MAX}) {
      Asm.due("begin(" + need + ")", y.begin(need), NONE);
      Asm.due("nothing is OPEN", y.feed(0), NONE);
      Asm.due("programs", y.count(0), 0);
    }
    Asm.due("begin(1)", y.begin(1), 0);
    Asm.due("NEED", y.program(0, 1), 1);
    y.verify();
    Asm.due("begin(1024)", y.begin(1024), 1);
    Asm.due("NEED", y.program(1, 1), 1024);
    Look.leavesAll("begin(0)", false, z -> Asm.due("begin", z.begin(0), NONE));
    Look.leavesAll("begin(1025)", false, z -> Asm.due("begin", z.begin(1025), NONE));
  }

  private static void feedNoneOpen() {
    Asm.sentence("Promise 3", "NONE: none is OPEN");
    RegionYard y = new RegionYard();
    Asm.due("feed ahead of all", y.feed(0), NONE);
    y.begin(1);
    Asm.due("feed", y.feed(0), 0);
    y.verify();
    Asm.due("feed behind verify", y.feed(0), NONE);
    Asm.due("words of all", y.count(1), 1);
    Asm.due("its words", y.program(0, 2), 1);
    Look.leavesAll("feed with none OPEN", false, z -> Asm.due("feed", z.feed(0), NONE));
  }

  private static void taken(int word, boolean due) {
    RegionYard y = new RegionYard();
    y.begin(1);
    Asm.due("feed(" + Integer.toHexString(word) + ")", y.feed(word), due ? 0 : NONE);
    Asm.due("words behind it", y.program(0, 2), due ? 1 : 0);
    Asm.due("words of all behind it", y.count(1), due ? 1 : 0);
    Asm.due("the next one's index", y.feed(0), due ? 1 : 0);
  }

  private static void feedOps() {
    Asm.sentence("Promise 3", "the word is none (an OP above 20)");
    for (int op = 0; op < 256; op++) {
      taken(Asm.word(op, 0, 0, 0), op <= 20);
    }
    Asm.sentence("Terms 1", "the highest 8 bits the OP: the sign is one of them");
    taken(MIN, false);
    taken(-1, false);
    taken(MIN | 20 << 24, false);
  }

  private static void feedRegisters() {
    Asm.sentence("Promise 3", "the word is none (.. D, A, B above 7)");
    for (int op = 0; op <= 20; op++) {
      for (int number = 6; number < 16; number++) {
        if (PARTS[op].contains("D")) {
          taken(Asm.word(op, number, 0, 0), number <= 7);
        }
        if (PARTS[op].contains("A")) {
          taken(Asm.word(op, 0, number, 0), number <= 7);
        }
        if (PARTS[op].contains("B")) {
          taken(Asm.word(op, 0, 0, number << 12), number <= 7);
        }
      }
    }
    taken(Asm.word(4, 7, 7, 7 << 12), true);
    taken(Asm.word(9, 7, 7, 0xFFFF), true);
  }

  private static void feedShift() {
    Asm.sentence("Promise 3", "the word is none (.. SHIFT above 31)");
    taken(Asm.shift(7, 7, 0), true);
    taken(Asm.shift(7, 7, 31), true);
    for (int n : new int[] {32, 33, 63, 64, 0x1000, 0x7FFF, 0x8000, 0xFFFF}) {
      taken(Asm.shift(7, 7, n), false);
    }
    Asm.sentence("Terms 1", "N, the lowest 16 bits: any other OP's N is as great as it will");
    for (int op = 0; op <= 20; op++) {
      for (int n : new int[] {0, 1, 32, 0x7FFF, 0x8000, 0xFFFF}) {
        if (PARTS[op].contains("N") && op != 11) {
          taken(Asm.word(op, 0, 0, n), true);
        }
      }
    }
  }

  private static void feedOthers() {
    Asm.sentence("Promise 3", "the word is none (.. something that it has not isn't 0)");
    for (int op = 0; op <= 20; op++) {
      boolean hasB = PARTS[op].contains("B");
      boolean hasN = PARTS[op].contains("N");
      for (int bit = 0; bit < 4; bit++) {
        if (!PARTS[op].contains("D")) {
          taken(Asm.word(op, 1 << bit, 0, 0), false);
        }
        if (!PARTS[op].contains("A")) {
          taken(Asm.word(op, 0, 1 << bit, 0), false);
        }
        if (!hasN && !hasB) {
          taken(Asm.word(op, 0, 0, 1 << bit + 12), false);
        }
      }
      for (int bit = 0; bit < 12; bit++) {
        if (!hasN) {
          taken(Asm.word(op, 0, 0, 1 << bit), false);
        }
      }
    }
  }

  private static void feedFull() {
    Asm.sentence("Promise 3", "it has 200");
    RegionYard y = fullYard();
    Asm.due("words", y.program(0, 2), 200);
    for (int i = 0; i < 3; i++) {
      Asm.due("feed", y.feed(Asm.yieldTurn()), NONE);
    }
    Asm.due("words", y.program(0, 2), 200);
    Asm.due("words of all", y.count(1), 200);
    Asm.due("label of the last word", y.label(199, 0), true);
    Asm.due("label behind it", y.label(200, 0), false);
    y.label(0, 0);
    Asm.due("the last word has no next index", y.verify(), 16 * 199 + 1);
    y.begin(1);
    Asm.due("a word of the next program", y.feed(0), 0);
    Asm.due("words of all", y.count(1), 201);
  }

  /** Beyond the 512 calls for which an object's answers are promised: nearer it can't be asked. */
  private static void feedAllFull() {
    Asm.sentence("Promise 3", "all programs have 2000");
    RegionYard y = new RegionYard();
    for (int i = 0; i < 2000; i++) {
      if (i % 100 == 0) {
        y.verify();
        y.begin(1);
      }
      Asm.due("feed", y.feed(0), i % 100);
    }
    Asm.due("the 2001st", y.feed(0), NONE);
    Asm.due("words of all", y.count(1), 2000);
    y.verify();
    y.begin(1);
    Asm.due("the 2001st, of the next program", y.feed(0), NONE);
  }

  private static void feedRefused() {
    Asm.sentence("Promise 3", "NONE: a word that is none changes nothing");
    for (int word : new int[] {-1, 0x15000000, Asm.word(3, 8, 0, 0), Asm.word(11, 0, 0, 32), 1}) {
      Look.leavesAll("feed", true, z -> Asm.due("feed", z.feed(word), NONE));
    }
  }

  private static void labelAgain() {
    Asm.sentence("Promise 4", "A label of a function is told (again: all its types are 0 anew)");
    for (int register = 0; register < 8; register++) {
      RegionYard y = new RegionYard();
      Asm.open(y, 1, Asm.exit(register));
      Asm.label(y, 0, 0, Asm.zero(register));
      Asm.due("label again", y.label(0, 0), true);
      Asm.due("verify: the type is gone", y.verify(), 2);
      RegionYard z = new RegionYard();
      Asm.open(z, 1, Asm.exit(register));
      Asm.label(z, 0, 0, Small.pointer(register, 5, 6));
      z.label(0, 0);
      z.type(0, register, 1, 0, 0);
      Asm.due("verify: what is told behind it holds", z.verify(), 0);
    }
    Asm.sentence("Terms 2", "LABELS: indexes, each of a function: told again, of the latest one");
    RegionYard y = new RegionYard();
    Asm.open(y, 1, Asm.jump(1), Asm.jump(1));
    y.function(1);
    y.label(0, 0);
    y.label(1, 1);
    y.label(1, 0);
    Asm.due("verify", y.verify(), 0);
    RegionYard z = new RegionYard();
    Asm.open(z, 1, Asm.jump(1), Asm.jump(1));
    z.function(1);
    z.label(0, 0);
    z.label(1, 0);
    z.label(1, 1);
    Asm.due("verify", z.verify(), 1);
  }

  private static void labelEdges() {
    Asm.sentence("Promise 4", "False: none is OPEN");
    RegionYard y = new RegionYard();
    Asm.due("label ahead of all", y.label(0, 0), false);
    Asm.open(y, 1, Asm.jump(0));
    y.label(0, 0);
    y.verify();
    Asm.due("label behind verify", y.label(0, 0), false);
    Look.leavesAll("label with none OPEN", false, z -> Asm.due("label", z.label(0, 0), false));
    Asm.sentence("Promise 4", "there is no such word (so far)");
    RegionYard words = new RegionYard();
    words.begin(1);
    Asm.due("label(0, 0) without words", words.label(0, 0), false);
    words.feed(0);
    Asm.due("label(0, 0)", words.label(0, 0), true);
    Asm.due("label(1, 0) so far", words.label(1, 0), false);
    words.feed(0);
    Asm.due("label(1, 0) now", words.label(1, 0), true);
    for (int index : new int[] {2, 199, 200, MAX, -1, MIN}) {
      Asm.due("label(" + index + ", 0)", words.label(index, 0), false);
    }
    Asm.sentence("Promise 4", "there is no such .. function");
    RegionYard funs = new RegionYard();
    Asm.open(funs, 1, 0);
    Asm.due("label of function 1 so far", funs.label(0, 1), false);
    for (int function = 1; function < 8; function++) {
      funs.function(0);
      Asm.due("label of function " + function, funs.label(0, function), true);
      Asm.due("label of the next one", funs.label(0, function + 1), false);
    }
    for (int function : new int[] {8, 9, MAX, -1, MIN}) {
      Asm.due("label of function " + function, funs.label(0, function), false);
    }
  }

  private static void labelRefused() {
    Asm.sentence("Promise 4", "False: a label that is refused changes nothing");
    Look.leavesAll("label(1, 2)", true, z -> Asm.due("label", z.label(1, 2), false));
    Look.leavesAll("label(1, -1)", true, z -> Asm.due("label", z.label(1, -1), false));
    Look.leavesAll("label(5, 0)", true, z -> Asm.due("label", z.label(5, 0), false));
    Look.leavesAll("label(-1, 0)", true, z -> Asm.due("label", z.label(-1, 0), false));
  }

  /** What type() and out() ask alike of a register's type, on something that there is. */
  private interface Teller {
    boolean tell(int register, int kind, int low, int high);
  }

  private static void tellEdges(String promise, Teller teller) {
    Asm.sentence(promise, "no such register");
    Asm.due("register 0", teller.tell(0, 1, 0, 0), true);
    Asm.due("register 7", teller.tell(7, 1, 0, 0), true);
    for (int register : new int[] {8, MAX, -1, MIN}) {
      for (int kind = 0; kind <= 2; kind++) {
        Asm.due("register " + register, teller.tell(register, kind, 0, 0), false);
      }
    }
    Asm.sentence(promise, "kind is not 0 .. 2");
    for (int kind = 0; kind <= 2; kind++) {
      Asm.due("kind " + kind, teller.tell(7, kind, 0, 0), true);
    }
    for (int kind : new int[] {3, MAX, -1, MIN}) {
      Asm.due("kind " + kind, teller.tell(7, kind, 0, 0), false);
    }
    Asm.sentence(promise, "LOW is above HIGH");
    for (int kind = 1; kind <= 2; kind++) {
      Asm.due("5 .. 5", teller.tell(7, kind, 5, 5), true);
      Asm.due("5 .. 4", teller.tell(7, kind, 5, 4), false);
      Asm.due("0 .. -1", teller.tell(7, kind, 0, -1), false);
      Asm.due("the least .. the greatest", teller.tell(7, kind, MIN, MAX), true);
      Asm.due("the greatest .. the least", teller.tell(7, kind, MAX, MIN), false);
      Asm.due("the least .. the least", teller.tell(7, kind, MIN, MIN), true);
      Asm.due("the greatest .. the greatest", teller.tell(7, kind, MAX, MAX), true);
    }
    Asm.sentence(promise, "(of kind 0 neither is asked)");
    Asm.due("5 .. 4", teller.tell(7, 0, 5, 4), true);
    Asm.due("the greatest .. the least", teller.tell(7, 0, MAX, MIN), true);
  }

  private static void typeEdges() {
    Asm.sentence("Promise 5", "False: none is OPEN");
    RegionYard y = new RegionYard();
    Asm.due("type ahead of all", y.type(0, 0, 0, 0, 0), false);
    Asm.open(y, 1, Asm.jump(0));
    y.label(0, 0);
    y.verify();
    Asm.due("type behind verify", y.type(0, 0, 1, 0, 0), false);
    Look.leavesAll("type with none OPEN", false, z -> Asm.due("type", z.type(0, 0, 1, 4, 4), false));
    Asm.sentence("Promise 5", "index is no label");
    RegionYard at = new RegionYard();
    at.begin(1);
    Asm.due("no word at all", at.type(0, 0, 0, 0, 0), false);
    at.feed(0);
    at.feed(0);
    Asm.due("no label so far", at.type(1, 0, 0, 0, 0), false);
    at.label(1, 0);
    Asm.due("a label", at.type(1, 0, 0, 0, 0), true);
    for (int index : new int[] {0, 2, 199, 200, MAX, -1, MIN}) {
      Asm.due("type at " + index, at.type(index, 0, 1, 0, 0), false);
    }
    tellEdges("Promise 5", (register, kind, low, high) -> at.type(1, register, kind, low, high));
    Asm.sentence("Promise 5", "A register's type at a label: the latest one told");
    RegionYard latest = new RegionYard();
    Asm.open(latest, 1, Asm.exit(0));
    Asm.label(latest, 0, 0, Small.ints(0, 5, 5), Asm.zero(0));
    Asm.due("verify", latest.verify(), 0);
    RegionYard none = new RegionYard();
    Asm.open(none, 1, Asm.exit(0));
    Asm.label(none, 0, 0, Asm.zero(0), Asm.type(0, 0, 5, 4));
    Asm.due("verify of kind 0", none.verify(), 2);
  }

  private static void typeRefused() {
    Asm.sentence("Promise 5", "False: a type that is refused changes nothing");
    Look.leavesAll("LOW above HIGH", true, z -> Asm.due("type", z.type(1, 3, 1, 10, 9), false));
    Look.leavesAll("kind 3", true, z -> Asm.due("type", z.type(1, 3, 3, 10, 11), false));
    Look.leavesAll("kind -1", true, z -> Asm.due("type", z.type(1, 3, -1, 10, 11), false));
    Look.leavesAll("register 8", true, z -> Asm.due("type", z.type(1, 8, 1, 10, 11), false));
    Look.leavesAll("no label", true, z -> Asm.due("type", z.type(4, 3, 1, 10, 11), false));
  }

  private static void functionEdges() {
    Asm.sentence("Promise 6", "NONE: none is OPEN");
    RegionYard y = new RegionYard();
    Asm.due("function ahead of all", y.function(0), NONE);
    Asm.open(y, 1, Asm.jump(0));
    y.label(0, 0);
    y.verify();
    Asm.due("function behind verify", y.function(0), NONE);
    Look.leavesAll("function with none OPEN", false, z -> Asm.due("function", z.function(0), NONE));
    Asm.sentence("Promise 6", "there is no such word (so far)");
    RegionYard words = new RegionYard();
    words.begin(1);
    Asm.due("function(0) without words", words.function(0), NONE);
    words.feed(0);
    Asm.due("function(1) so far", words.function(1), NONE);
    words.feed(0);
    Asm.due("function(1) now", words.function(1), 1);
    for (int entry : new int[] {2, 200, MAX, -1, MIN}) {
      Asm.due("function(" + entry + ")", words.function(entry), NONE);
    }
    Asm.due("functions", words.program(0, 3), 2);
    Look.leavesAll("function(5)", true, z -> Asm.due("function", z.function(5), NONE));
    Asm.sentence("Promise 6", "it has 8");
    for (int i = 2; i < 8; i++) {
      Asm.due("function", words.function(0), i);
    }
    Asm.due("the ninth", words.function(0), NONE);
    Asm.due("functions", words.program(0, 3), 8);
    Asm.due("label of the eighth", words.label(0, 7), true);
    Asm.due("label of a ninth", words.label(0, 8), false);
    Asm.due("out of the eighth", words.out(7, 0, 0, 0, 0), true);
    Asm.due("out of a ninth", words.out(8, 0, 0, 0, 0), false);
  }

  private static void outEdges() {
    Asm.sentence("Promise 7", "False as type(): none is OPEN");
    RegionYard y = new RegionYard();
    Asm.due("out ahead of all", y.out(0, 0, 0, 0, 0), false);
    y.begin(1);
    y.verify();
    Asm.due("out behind verify", y.out(0, 0, 0, 0, 0), false);
    Look.leavesAll("out with none OPEN", false, z -> Asm.due("out", z.out(1, 3, 1, 4, 4), false));
    Asm.sentence("Promise 7", "(function for index): no such function");
    RegionYard funs = new RegionYard();
    Asm.open(funs, 1, 0);
    Asm.due("out of function 0", funs.out(0, 0, 1, 0, 0), true);
    Asm.due("out of function 1 so far", funs.out(1, 0, 1, 0, 0), false);
    funs.function(0);
    Asm.due("out of function 1 now", funs.out(1, 0, 1, 0, 0), true);
    for (int function : new int[] {2, 7, 8, MAX, -1, MIN}) {
      Asm.due("out of function " + function, funs.out(function, 0, 1, 0, 0), false);
    }
    tellEdges("Promise 7", (register, kind, low, high) -> funs.out(1, register, kind, low, high));
    Asm.sentence("Promise 7", "A register's OUT TYPE of a function: the latest one told");
    for (int high = 2; high <= 3; high++) {
      RegionYard latest = new RegionYard();
      Asm.open(latest, 1, Asm.exit(0), Asm.set(1, 3), Asm.giveBack());
      latest.function(1);
      Asm.label(latest, 0, 0, Asm.zero(0));
      Asm.label(latest, 1, 1);
      latest.out(1, 1, 1, 0, 5 - high);
      latest.out(1, 1, 1, 0, high);
      Asm.due("verify", latest.verify(), high == 3 ? 0 : 16 * 2 + 10);
    }
  }

  private static void outRefused() {
    Asm.sentence("Promise 7", "False: an OUT type that is refused changes nothing");
    Look.leavesAll("LOW above HIGH", true, z -> Asm.due("out", z.out(1, 3, 1, 9, 8), false));
    Look.leavesAll("kind 3", true, z -> Asm.due("out", z.out(1, 3, 3, 8, 8), false));
    Look.leavesAll("kind -1", true, z -> Asm.due("out", z.out(1, 3, -1, 8, 8), false));
    Look.leavesAll("register 8", true, z -> Asm.due("out", z.out(1, 8, 1, 8, 8), false));
    Look.leavesAll("no function", true, z -> Asm.due("out", z.out(2, 3, 1, 8, 8), false));
  }

  /** f0 exits; f1 returns; f2's entry is no label; f3's is a label of f1. */
  private static void openLibrary(RegionYard y, int need) {
    Asm.open(y, need, Asm.exit(0), Asm.yieldTurn(), Asm.giveBack());
    y.function(1);
    y.function(2);
    y.function(1);
    Asm.label(y, 0, 0, Asm.zero(0));
    Asm.label(y, 1, 1);
  }

  private static void linkEdges() {
    Asm.sentence("Promise 8", "NONE: none is OPEN");
    RegionYard y = new RegionYard();
    Asm.due("link ahead of all", y.link(0, 1), NONE);
    openLibrary(y, 10);
    Asm.due("verify", y.verify(), 0);
    Asm.due("link behind verify", y.link(0, 1), NONE);
    Look.leavesAll("link with none OPEN", false, z -> Asm.due("link", z.link(0, 1), NONE));
    Asm.sentence("Promise 8", "it has 8");
    y.begin(10);
    for (int i = 0; i < 8; i++) {
      Asm.due("link", y.link(0, 1), i);
    }
    Asm.due("the ninth", y.link(0, 1), NONE);
    Asm.due("links", y.program(1, 4), 8);
    y.feed(Asm.linked(7));
    y.feed(Asm.linked(8));
    y.label(0, 0);
    y.label(1, 0);
    Asm.due("the eighth is one, the ninth is none", y.verify(), 16 + 8);
    Asm.sentence("Promise 8", "an accepted program whose NEED is not above this one's / or its NEED is more");
    int[] needs = {9, 10, 11, 1, 1024};
    for (int i = 0; i < needs.length; i++) {
      y.begin(needs[i]);
      Asm.due("link to NEED 10 with " + needs[i], y.link(0, 1), needs[i] >= 10 ? 0 : NONE);
      Asm.due("links", y.program(2 + i, 4), needs[i] >= 10 ? 1 : 0);
      y.verify();
    }
  }

  private static void linkPrograms() {
    Asm.sentence("Promise 8", "there is no such accepted program");
    RegionYard y = new RegionYard();
    openLibrary(y, 1);
    Asm.due("link to itself, that is OPEN", y.link(0, 1), NONE);
    y.verify();
    openLibrary(y, 1);
    y.feed(Asm.jump(99));
    Asm.due("verify of one that is refused", y.verify(), 16 * 3 + 7);
    y.begin(1);
    Asm.due("link to a refused one", y.link(1, 1), NONE);
    for (int program : new int[] {2, 3, 24, MAX, -1, MIN}) {
      Asm.due("link to program " + program, y.link(program, 1), NONE);
    }
    Asm.due("links", y.program(2, 4), 0);
    linkOfAFullYard();
    Asm.sentence("Promise 8", "there is no such .. function (1 or above)");
    for (int function : new int[] {0, 4, 7, 8, MAX, -1, MIN}) {
      Asm.due("link to function " + function, y.link(0, function), NONE);
    }
    Asm.due("links", y.program(2, 4), 0);
    Asm.due("link to function 1", y.link(0, 1), 0);
    Look.leavesAll("link to function 0", true, z -> Asm.due("link", z.link(0, 0), NONE));
    Look.leavesAll("link to a refused one", true, z -> Asm.due("link", z.link(1, 1), NONE));
  }

  private static void linkOfAFullYard() {
    RegionYard y = new RegionYard();
    for (int i = 0; i < 24; i++) {
      y.verify();
      y.begin(1);
    }
    Asm.due("link to program 24 of 24", y.link(24, 1), NONE);
    Asm.due("link to program 23, that is OPEN", y.link(23, 1), NONE);
  }

  private static void linkEntries() {
    Asm.sentence("Promise 8", "or the function's entry is no label of it");
    RegionYard y = new RegionYard();
    openLibrary(y, 1);
    y.verify();
    y.begin(1);
    Asm.due("an entry without a label", y.link(0, 2), NONE);
    Asm.due("an entry that is a label of another", y.link(0, 3), NONE);
    Asm.due("links", y.program(1, 4), 0);
    Asm.due("an entry that is a label of its own", y.link(0, 1), 0);
  }

  /** f1 calls f2 and so on to f(last), which calls link 0, if there is a program to link to. */
  private static int loadChain(RegionYard y, int last, int linkTo) {
    int number = y.begin(1);
    y.feed(Asm.exit(0));
    Asm.label(y, 0, 0, Asm.zero(0));
    if (linkTo != NONE) {
      Asm.due("link of a chain", y.link(linkTo, 1), 0);
    }
    for (int f = 1; f <= last; f++) {
      boolean deepest = f == last && linkTo == NONE;
      int at = y.feed(deepest ? Asm.yieldTurn() : f < last ? Asm.call(f + 1) : Asm.linked(0));
      y.feed(Asm.giveBack());
      y.function(at);
      y.label(at, f);
      y.label(at + 1, f);
    }
    Asm.due("verify of a chain", y.verify(), 0);
    return number;
  }

  private static void linkDepths() {
    Asm.sentence("Promise 8", "or its DEPTH is above 32");
    RegionYard y = new RegionYard();
    int under = NONE;
    for (int i = 0; i < 4; i++) {
      under = loadChain(y, 7, under);
    }
    int deep31 = loadChain(y, 4, under);
    int deep32 = loadChain(y, 5, under);
    int deep33 = loadChain(y, 6, under);
    y.begin(1);
    Asm.due("33 deep", y.link(deep33, 1), NONE);
    Asm.due("its function 2 is 32 deep", y.link(deep33, 2), 0);
    Asm.due("32 deep", y.link(deep32, 1), 1);
    Asm.due("31 deep", y.link(deep31, 1), 2);
    Asm.due("links", y.program(deep33 + 1, 4), 3);
  }

  private static void programEdges() {
    Asm.sentence("Promise 10", "NoSuchElementException: no such program");
    RegionYard y = new RegionYard();
    Asm.dueThrow("program(0, 0) of none", NoSuchElementException.class, () -> y.program(0, 0));
    openLibrary(y, 7);
    y.verify();
    for (int program : new int[] {1, 2, 23, 24, MAX, -1, MIN}) {
      Asm.dueThrow("program(" + program + ", 0)", NoSuchElementException.class, () -> y.program(program, 0));
    }
    Asm.sentence("Promise 10", "NoSuchElementException: no such .. what");
    for (int what : new int[] {7, 8, MAX, -1, MIN}) {
      Asm.dueThrow("program(0, " + what + ")", NoSuchElementException.class, () -> y.program(0, what));
    }
    Asm.sentence("Promise 10", "0 its state (0 OPEN, 1 accepted, 2 refused)");
    Asm.due("accepted", y.program(0, 0), 1);
    y.begin(1);
    Asm.due("OPEN", y.program(1, 0), 0);
    Asm.sentence("Promise 10", "5 what verify() answered (NONE so far)");
    Asm.due("of what is OPEN", y.program(1, 5), NONE);
    y.feed(Asm.giveBack());
    y.label(0, 0);
    Asm.due("verify", y.verify(), 11);
    Asm.due("of what is refused", y.program(1, 5), 11);
    Asm.due("of what is accepted", y.program(0, 5), 0);
    Asm.due("its state", y.program(1, 0), 2);
    programCounts();
    depthEdges();
  }

  private static void programIs(RegionYard y, int program, int need, int words, int functions, int links) {
    int[] want = {need, words, functions, links};
    for (int i = 0; i < want.length; i++) {
      Asm.due("program(" + program + ", " + (i + 1) + ")", y.program(program, i + 1), want[i]);
    }
  }

  private static void programCounts() {
    Asm.sentence("Promise 10", "1 NEED, 2 words, 3 functions, 4 links: from a new one's on, and when it is closed");
    RegionYard y = new RegionYard();
    openLibrary(y, 7);
    y.verify();
    programIs(y, 0, 7, 3, 4, 0);
    y.begin(1024);
    programIs(y, 1, 1024, 0, 1, 0);
    y.feed(0);
    programIs(y, 1, 1024, 1, 1, 0);
    y.link(0, 1);
    programIs(y, 1, 1024, 1, 1, 1);
    y.function(0);
    programIs(y, 1, 1024, 1, 2, 1);
    y.verify();
    programIs(y, 1, 1024, 1, 2, 1);
    programIs(y, 0, 7, 3, 4, 0);
  }

  private static void depthEdges() {
    Asm.sentence("Promise 10", "6 the DEPTH of its function 0 (0 unless it is accepted)");
    for (int last = 1; last <= 2; last++) {
      RegionYard y = new RegionYard();
      Asm.open(y, 1, Asm.call(1), Asm.jump(1), Asm.giveBack(), last == 2 ? Asm.exit(5) : Asm.giveBack());
      y.function(2);
      y.label(0, 0);
      y.label(1, 0);
      y.label(2, 1);
      y.label(3, 1);
      Asm.due("of what is OPEN", y.program(0, 6), 0);
      Asm.due("verify", y.verify(), last == 2 ? 16 * 3 + 2 : 0);
      Asm.due("DEPTH", y.program(0, 6), last == 2 ? 0 : 1);
    }
    Look.leavesAll("program(9, 0)", true, z -> z.program(9, 0));
    Look.leavesAll("program(0, 7)", true, z -> z.program(0, 7));
  }
}
